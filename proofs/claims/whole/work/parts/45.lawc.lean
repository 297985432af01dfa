theorem lw_in {i k L : Nat} (h : i + k < L) (hL : L ≤ 3072) : vp_in (nI i + nI k) L := by
  rw [nI_add]
  exact vp_in_nI h (by omega)
theorem lw_in0 {i L : Nat} (h : i < L) (hL : L ≤ 3072) : vp_in (nI i) L := vp_in_nI h (by omega)
theorem lw_six {i L : Nat} {x3 : Int32} (hi : i ≤ L) (hL : L ≤ 3072) (ex : x3 = nI i) (h : ¬ Int32.ofNat L - 6 < x3) : i + 6 ≤ L := by
  rcases Nat.lt_or_ge L (i + 6) with q | q
  · exfalso
    apply h
    rw [ex]
    show nI L - nI 6 < nI i
    rw [Int32.lt_iff_toInt_lt, nI_toInt (by omega), pk_sub_toInt (by omega) (by omega)]
    omega
  · exact q
theorem lw_six6 (i : Nat) : nI i + 6 = nI (i + 6) := nI_add i 6
theorem wlk_32 : Cond.constantLong R_law 32 (4294967295) ∈ ztb := zmem 1219 (by decide +kernel) (by decide +kernel)
set_option maxHeartbeats 4000000 in
set_option maxRecDepth 100000 in
theorem law_c0 {p : Program} {l : Launch} {e : Env} {s : State} {m : MethodId} {below : List Frame} {meth : Method} {c : Code} {D : va_G} {cA : Nat → ClassId} {adC adM : Nat → Nat} {hC hM : Nat} {b L : Nat} {xs : Nat → Int32} {I : Zs → Zs → Prop} (hsim : zSim I) (hL : L ≤ 3072) (C0 : lw_At p s m meth c b L xs) (F : lwF s hC hM adC adM)
    (CC : zCx p s m #[Value.ref b] meth c code 4 R_law ret D adC cA (fun q : Nat => s.heap.size ≤ q)) (CM : zCx p s m #[Value.ref b] meth c code 4 R_law ret D adM cA (fun q : Nat => s.heap.size ≤ q)) (DC : ∀ S, va_D (fun q : Nat => s.heap.size ≤ q) (zw zC adC cA S)) (DM : ∀ S, va_D (fun q : Nat => s.heap.size ≤ q) (zw zM adM cA S))
    {n i : Nat} {x3 : Int32} (hi : i ≤ L) (hin : L + 6 ≤ i + (n + 1)) (ex3 : x3 = nI i) (h6 : i + 6 ≤ L) {SC SM : Zs} (hI : I SC SM) {H : Heap} {locs : List Loc} (hPC : va_P D zcl (zw zC adC cA SC) H) (hPM : va_P D zcl (zw zM adM cA SM) H) (hS : va_S (fun q : Nat => s.heap.size ≤ q) s.heap H locs) {ls : Array Slot} (hl : lv_has ls 4 [(0, .ref b), (1, .ref (adC 0)), (2, .ref (adM 0)), (3, .int x3)])
    (ih : ∀ (i : Nat) (x3 : Int32), i ≤ L → L + 6 ≤ i + n → x3 = nI i → ∀ (SC SM : Zs), I SC SM → ∀ (H : Heap) (locs : List Loc), va_P D zcl (zw zC adC cA SC) H → va_P D zcl (zw zM adM cA SM) H → va_S (fun q : Nat => s.heap.size ≤ q) s.heap H locs → ∀ (ls : Array Slot), lv_has ls 4 [(0, .ref b), (1, .ref (adC 0)), (2, .ref (adM 0)), (3, .int x3)] → W p l e room_1 s m #[Value.ref b] below meth c H locs 200 3000 (lw_Z below #[Value.ref b] s) (F0 m 18 ls [])) :
    W p l e room_1 s m #[Value.ref b] below meth c H locs 200 3000 (lw_Z below #[Value.ref b] s) (F0 m 148 ls []) := by
  have hx := CC.1
  have hb := CC.2.1
  obtain ⟨-, -, hr, -, -, -, hX, hbl, hlocks, -⟩ := C0
  have hbA : ¬ (fun q : Nat => s.heap.size ≤ q) b := Nat.not_le.mpr hbl
  have hj0 : vp_in x3 L := by rw [ex3]; exact lw_in0 (by omega) hL
  have hj1 : vp_in (x3 + 1) L := by rw [ex3]; exact lw_in (k := 1) (by omega) hL
  have hj2 : vp_in (x3 + 2) L := by rw [ex3]; exact lw_in (k := 2) (by omega) hL
  have hj3 : vp_in (x3 + 3) L := by rw [ex3]; exact lw_in (k := 3) (by omega) hL
  have hj4 : vp_in (x3 + 4) L := by rw [ex3]; exact lw_in (k := 4) (by omega) hL
  have hj5 : vp_in (x3 + 5) L := by rw [ex3]; exact lw_in (k := 5) (by omega) hL
  obtain ⟨r, SC', SM', g6, g7, hI'⟩ := hsim.1 SC SM (xs (x3 + 1).toNatClampNeg) (xs (x3 + 2).toNatClampNeg) (xs (x3 + 3).toNatClampNeg) hI
  refine lv_aload_n hx hb dL_law_148 rfl (lv_at hl 1 rfl) ?_
  refine lv_aload_n hx hb dL_law_149 rfl (lv_at hl 0 rfl) ?_
  refine lv_iload_n hx hb dL_law_150 rfl (lv_at hl 3 rfl) ?_
  refine lv_iconst (v := 1) hx hb dL_law_151 (by decide) ?_
  refine lv_iadd hx hb dL_law_152 ?_
  refine va_sld hx hb hX hbl hbA hS hj1 dL_law_153 ?_
  refine lv_aload_n hx hb dL_law_154 rfl (lv_at hl 0 rfl) ?_
  refine lv_iload_n hx hb dL_law_155 rfl (lv_at hl 3 rfl) ?_
  refine lv_iconst (v := 2) hx hb dL_law_156 (by decide) ?_
  refine lv_iadd hx hb dL_law_157 ?_
  refine va_sld hx hb hX hbl hbA hS hj2 dL_law_158 ?_
  refine lv_aload_n hx hb dL_law_159 rfl (lv_at hl 0 rfl) ?_
  refine lv_iload_n hx hb dL_law_160 rfl (lv_at hl 3 rfl) ?_
  refine lv_iconst (v := 3) hx hb dL_law_161 (by decide) ?_
  refine lv_iadd hx hb dL_law_162 ?_
  refine va_sld hx hb hX hbl hbA hS hj3 dL_law_163 ?_
  refine lw_calll CC ⟨hPC, DC _, hS⟩ (As := [.int (xs (x3 + 1).toNatClampNeg), .int (xs (x3 + 2).toNatClampNeg), .int (xs (x3 + 3).toNatClampNeg)]) (m6_row g6) wl6_row (ci := 6) rfl zs0 rfl (by decide) hl.1 rfl (Nat.le_of_ble_eq_true rfl) dL_law_164 (by decide) (fun H1 locs1 hk hP1 => ?_)
  have hPM := lw_frC F hPM hk
  obtain ⟨hPC, -, hS⟩ := hP1
  refine lv_aload_n hx hb dL_law_167 rfl (lv_at hl 2 rfl) ?_
  refine lv_aload_n hx hb dL_law_168 rfl (lv_at hl 0 rfl) ?_
  refine lv_iload_n hx hb dL_law_169 rfl (lv_at hl 3 rfl) ?_
  refine lv_iconst (v := 1) hx hb dL_law_170 (by decide) ?_
  refine lv_iadd hx hb dL_law_171 ?_
  refine va_sld hx hb hX hbl hbA hS hj1 dL_law_172 ?_
  refine lv_aload_n hx hb dL_law_173 rfl (lv_at hl 0 rfl) ?_
  refine lv_iload_n hx hb dL_law_174 rfl (lv_at hl 3 rfl) ?_
  refine lv_iconst (v := 2) hx hb dL_law_175 (by decide) ?_
  refine lv_iadd hx hb dL_law_176 ?_
  refine va_sld hx hb hX hbl hbA hS hj2 dL_law_177 ?_
  refine lv_aload_n hx hb dL_law_178 rfl (lv_at hl 0 rfl) ?_
  refine lv_iload_n hx hb dL_law_179 rfl (lv_at hl 3 rfl) ?_
  refine lv_iconst (v := 3) hx hb dL_law_180 (by decide) ?_
  refine lv_iadd hx hb dL_law_181 ?_
  refine va_sld hx hb hX hbl hbA hS hj3 dL_law_182 ?_
  refine lw_calll CM ⟨hPM, DM _, hS⟩ (As := [.int (xs (x3 + 1).toNatClampNeg), .int (xs (x3 + 2).toNatClampNeg), .int (xs (x3 + 3).toNatClampNeg)]) (m7_row g7) wl7_row (ci := 7) rfl zm0 rfl (by decide) hl.1 rfl (Nat.le_of_ble_eq_true rfl) dL_law_183 (by decide) (fun H1 locs1 hk hP1 => ?_)
  have hPC := lw_frM F hPC hk
  obtain ⟨hPM, -, hS⟩ := hP1
  refine W.lcmp hx hb dL_law_186 ?_
  refine lv_if_eq (tgt := 1005) hx hb dL_law_187 (by decide) (fun _ => ?_) (fun q => absurd ((lg_cmp_eq _ _).mpr rfl) q)
  refine lv_iinc (v := x3 + 6) (lv' := [(3, .int (x3 + 6)), (0, .ref b), (1, .ref (adC 0)), (2, .ref (adM 0))]) hx hb dL_law_1005 hl (k := 3) rfl rfl (by decide) rfl (fun ls hl => ?_)
  refine lv_goto (tgt := 18) hx hb dL_law_1008 (by decide) ?_
  exact ih (i + 6) (x3 + 6) h6 (by omega) (by rw [ex3]; exact lw_six6 i) _ _ hI' _ _ hPC hPM hS ls (lv_sub hl [1, 2, 3, 0] rfl)
set_option maxHeartbeats 4000000 in
set_option maxRecDepth 100000 in
theorem law_c1 {p : Program} {l : Launch} {e : Env} {s : State} {m : MethodId} {below : List Frame} {meth : Method} {c : Code} {D : va_G} {cA : Nat → ClassId} {adC adM : Nat → Nat} {hC hM : Nat} {b L : Nat} {xs : Nat → Int32} {I : Zs → Zs → Prop} (hsim : zSim I) (hL : L ≤ 3072) (C0 : lw_At p s m meth c b L xs) (F : lwF s hC hM adC adM)
    (CC : zCx p s m #[Value.ref b] meth c code 4 R_law ret D adC cA (fun q : Nat => s.heap.size ≤ q)) (CM : zCx p s m #[Value.ref b] meth c code 4 R_law ret D adM cA (fun q : Nat => s.heap.size ≤ q)) (DC : ∀ S, va_D (fun q : Nat => s.heap.size ≤ q) (zw zC adC cA S)) (DM : ∀ S, va_D (fun q : Nat => s.heap.size ≤ q) (zw zM adM cA S))
    {n i : Nat} {x3 : Int32} (hi : i ≤ L) (hin : L + 6 ≤ i + (n + 1)) (ex3 : x3 = nI i) (h6 : i + 6 ≤ L) {SC SM : Zs} (hI : I SC SM) {H : Heap} {locs : List Loc} (hPC : va_P D zcl (zw zC adC cA SC) H) (hPM : va_P D zcl (zw zM adM cA SM) H) (hS : va_S (fun q : Nat => s.heap.size ≤ q) s.heap H locs) {ls : Array Slot} (hl : lv_has ls 4 [(0, .ref b), (1, .ref (adC 0)), (2, .ref (adM 0)), (3, .int x3)])
    (ih : ∀ (i : Nat) (x3 : Int32), i ≤ L → L + 6 ≤ i + n → x3 = nI i → ∀ (SC SM : Zs), I SC SM → ∀ (H : Heap) (locs : List Loc), va_P D zcl (zw zC adC cA SC) H → va_P D zcl (zw zM adM cA SM) H → va_S (fun q : Nat => s.heap.size ≤ q) s.heap H locs → ∀ (ls : Array Slot), lv_has ls 4 [(0, .ref b), (1, .ref (adC 0)), (2, .ref (adM 0)), (3, .int x3)] → W p l e room_1 s m #[Value.ref b] below meth c H locs 200 3000 (lw_Z below #[Value.ref b] s) (F0 m 18 ls [])) :
    W p l e room_1 s m #[Value.ref b] below meth c H locs 200 3000 (lw_Z below #[Value.ref b] s) (F0 m 192 ls []) := by
  have hx := CC.1
  have hb := CC.2.1
  obtain ⟨-, -, hr, -, -, -, hX, hbl, hlocks, -⟩ := C0
  have hbA : ¬ (fun q : Nat => s.heap.size ≤ q) b := Nat.not_le.mpr hbl
  have hj0 : vp_in x3 L := by rw [ex3]; exact lw_in0 (by omega) hL
  have hj1 : vp_in (x3 + 1) L := by rw [ex3]; exact lw_in (k := 1) (by omega) hL
  have hj2 : vp_in (x3 + 2) L := by rw [ex3]; exact lw_in (k := 2) (by omega) hL
  have hj3 : vp_in (x3 + 3) L := by rw [ex3]; exact lw_in (k := 3) (by omega) hL
  have hj4 : vp_in (x3 + 4) L := by rw [ex3]; exact lw_in (k := 4) (by omega) hL
  have hj5 : vp_in (x3 + 5) L := by rw [ex3]; exact lw_in (k := 5) (by omega) hL
  obtain ⟨r, SC', SM', g6, g7, hI'⟩ := hsim.2.1 SC SM (xs (x3 + 1).toNatClampNeg) (xs (x3 + 2).toNatClampNeg) (xs (x3 + 3).toNatClampNeg) hI
  refine lv_aload_n hx hb dL_law_192 rfl (lv_at hl 1 rfl) ?_
  refine lv_aload_n hx hb dL_law_193 rfl (lv_at hl 0 rfl) ?_
  refine lv_iload_n hx hb dL_law_194 rfl (lv_at hl 3 rfl) ?_
  refine lv_iconst (v := 1) hx hb dL_law_195 (by decide) ?_
  refine lv_iadd hx hb dL_law_196 ?_
  refine va_sld hx hb hX hbl hbA hS hj1 dL_law_197 ?_
  refine lv_aload_n hx hb dL_law_198 rfl (lv_at hl 0 rfl) ?_
  refine lv_iload_n hx hb dL_law_199 rfl (lv_at hl 3 rfl) ?_
  refine lv_iconst (v := 2) hx hb dL_law_200 (by decide) ?_
  refine lv_iadd hx hb dL_law_201 ?_
  refine va_sld hx hb hX hbl hbA hS hj2 dL_law_202 ?_
  refine lv_aload_n hx hb dL_law_203 rfl (lv_at hl 0 rfl) ?_
  refine lv_iload_n hx hb dL_law_204 rfl (lv_at hl 3 rfl) ?_
  refine lv_iconst (v := 3) hx hb dL_law_205 (by decide) ?_
  refine lv_iadd hx hb dL_law_206 ?_
  refine va_sld hx hb hX hbl hbA hS hj3 dL_law_207 ?_
  refine lw_calll CC ⟨hPC, DC _, hS⟩ (As := [.int (xs (x3 + 1).toNatClampNeg), .int (xs (x3 + 2).toNatClampNeg), .int (xs (x3 + 3).toNatClampNeg)]) (m6_set g6) wl6_set (ci := 6) rfl zs0 rfl (by decide) hl.1 rfl (Nat.le_of_ble_eq_true rfl) dL_law_208 (by decide) (fun H1 locs1 hk hP1 => ?_)
  have hPM := lw_frC F hPM hk
  obtain ⟨hPC, -, hS⟩ := hP1
  refine lv_aload_n hx hb dL_law_211 rfl (lv_at hl 2 rfl) ?_
  refine lv_aload_n hx hb dL_law_212 rfl (lv_at hl 0 rfl) ?_
  refine lv_iload_n hx hb dL_law_213 rfl (lv_at hl 3 rfl) ?_
  refine lv_iconst (v := 1) hx hb dL_law_214 (by decide) ?_
  refine lv_iadd hx hb dL_law_215 ?_
  refine va_sld hx hb hX hbl hbA hS hj1 dL_law_216 ?_
  refine lv_aload_n hx hb dL_law_217 rfl (lv_at hl 0 rfl) ?_
  refine lv_iload_n hx hb dL_law_218 rfl (lv_at hl 3 rfl) ?_
  refine lv_iconst (v := 2) hx hb dL_law_219 (by decide) ?_
  refine lv_iadd hx hb dL_law_220 ?_
  refine va_sld hx hb hX hbl hbA hS hj2 dL_law_221 ?_
  refine lv_aload_n hx hb dL_law_222 rfl (lv_at hl 0 rfl) ?_
  refine lv_iload_n hx hb dL_law_223 rfl (lv_at hl 3 rfl) ?_
  refine lv_iconst (v := 3) hx hb dL_law_224 (by decide) ?_
  refine lv_iadd hx hb dL_law_225 ?_
  refine va_sld hx hb hX hbl hbA hS hj3 dL_law_226 ?_
  refine lw_calll CM ⟨hPM, DM _, hS⟩ (As := [.int (xs (x3 + 1).toNatClampNeg), .int (xs (x3 + 2).toNatClampNeg), .int (xs (x3 + 3).toNatClampNeg)]) (m7_set g7) wl7_set (ci := 7) rfl zm0 rfl (by decide) hl.1 rfl (Nat.le_of_ble_eq_true rfl) dL_law_227 (by decide) (fun H1 locs1 hk hP1 => ?_)
  have hPC := lw_frM F hPC hk
  obtain ⟨hPM, -, hS⟩ := hP1
  refine W.lcmp hx hb dL_law_230 ?_
  refine lv_if_eq (tgt := 1005) hx hb dL_law_231 (by decide) (fun _ => ?_) (fun q => absurd ((lg_cmp_eq _ _).mpr rfl) q)
  refine lv_iinc (v := x3 + 6) (lv' := [(3, .int (x3 + 6)), (0, .ref b), (1, .ref (adC 0)), (2, .ref (adM 0))]) hx hb dL_law_1005 hl (k := 3) rfl rfl (by decide) rfl (fun ls hl => ?_)
  refine lv_goto (tgt := 18) hx hb dL_law_1008 (by decide) ?_
  exact ih (i + 6) (x3 + 6) h6 (by omega) (by rw [ex3]; exact lw_six6 i) _ _ hI' _ _ hPC hPM hS ls (lv_sub hl [1, 2, 3, 0] rfl)
set_option maxHeartbeats 4000000 in
set_option maxRecDepth 100000 in
theorem law_c2 {p : Program} {l : Launch} {e : Env} {s : State} {m : MethodId} {below : List Frame} {meth : Method} {c : Code} {D : va_G} {cA : Nat → ClassId} {adC adM : Nat → Nat} {hC hM : Nat} {b L : Nat} {xs : Nat → Int32} {I : Zs → Zs → Prop} (hsim : zSim I) (hL : L ≤ 3072) (C0 : lw_At p s m meth c b L xs) (F : lwF s hC hM adC adM)
    (CC : zCx p s m #[Value.ref b] meth c code 4 R_law ret D adC cA (fun q : Nat => s.heap.size ≤ q)) (CM : zCx p s m #[Value.ref b] meth c code 4 R_law ret D adM cA (fun q : Nat => s.heap.size ≤ q)) (DC : ∀ S, va_D (fun q : Nat => s.heap.size ≤ q) (zw zC adC cA S)) (DM : ∀ S, va_D (fun q : Nat => s.heap.size ≤ q) (zw zM adM cA S))
    {n i : Nat} {x3 : Int32} (hi : i ≤ L) (hin : L + 6 ≤ i + (n + 1)) (ex3 : x3 = nI i) (h6 : i + 6 ≤ L) {SC SM : Zs} (hI : I SC SM) {H : Heap} {locs : List Loc} (hPC : va_P D zcl (zw zC adC cA SC) H) (hPM : va_P D zcl (zw zM adM cA SM) H) (hS : va_S (fun q : Nat => s.heap.size ≤ q) s.heap H locs) {ls : Array Slot} (hl : lv_has ls 4 [(0, .ref b), (1, .ref (adC 0)), (2, .ref (adM 0)), (3, .int x3)])
    (ih : ∀ (i : Nat) (x3 : Int32), i ≤ L → L + 6 ≤ i + n → x3 = nI i → ∀ (SC SM : Zs), I SC SM → ∀ (H : Heap) (locs : List Loc), va_P D zcl (zw zC adC cA SC) H → va_P D zcl (zw zM adM cA SM) H → va_S (fun q : Nat => s.heap.size ≤ q) s.heap H locs → ∀ (ls : Array Slot), lv_has ls 4 [(0, .ref b), (1, .ref (adC 0)), (2, .ref (adM 0)), (3, .int x3)] → W p l e room_1 s m #[Value.ref b] below meth c H locs 200 3000 (lw_Z below #[Value.ref b] s) (F0 m 18 ls [])) :
    W p l e room_1 s m #[Value.ref b] below meth c H locs 200 3000 (lw_Z below #[Value.ref b] s) (F0 m 236 ls []) := by
  have hx := CC.1
  have hb := CC.2.1
  obtain ⟨-, -, hr, -, -, -, hX, hbl, hlocks, -⟩ := C0
  have hbA : ¬ (fun q : Nat => s.heap.size ≤ q) b := Nat.not_le.mpr hbl
  have hj0 : vp_in x3 L := by rw [ex3]; exact lw_in0 (by omega) hL
  have hj1 : vp_in (x3 + 1) L := by rw [ex3]; exact lw_in (k := 1) (by omega) hL
  have hj2 : vp_in (x3 + 2) L := by rw [ex3]; exact lw_in (k := 2) (by omega) hL
  have hj3 : vp_in (x3 + 3) L := by rw [ex3]; exact lw_in (k := 3) (by omega) hL
  have hj4 : vp_in (x3 + 4) L := by rw [ex3]; exact lw_in (k := 4) (by omega) hL
  have hj5 : vp_in (x3 + 5) L := by rw [ex3]; exact lw_in (k := 5) (by omega) hL
  obtain ⟨r, SC', SM', g6, g7, hI'⟩ := hsim.2.2.1 SC SM (xs (x3 + 1).toNatClampNeg) (xs (x3 + 2).toNatClampNeg) (xs (x3 + 3).toNatClampNeg) (xs (x3 + 4).toNatClampNeg) (xs (x3 + 5).toNatClampNeg) hI
  refine lv_aload_n hx hb dL_law_236 rfl (lv_at hl 1 rfl) ?_
  refine lv_aload_n hx hb dL_law_237 rfl (lv_at hl 0 rfl) ?_
  refine lv_iload_n hx hb dL_law_238 rfl (lv_at hl 3 rfl) ?_
  refine lv_iconst (v := 1) hx hb dL_law_239 (by decide) ?_
  refine lv_iadd hx hb dL_law_240 ?_
  refine va_sld hx hb hX hbl hbA hS hj1 dL_law_241 ?_
  refine lv_aload_n hx hb dL_law_242 rfl (lv_at hl 0 rfl) ?_
  refine lv_iload_n hx hb dL_law_243 rfl (lv_at hl 3 rfl) ?_
  refine lv_iconst (v := 2) hx hb dL_law_244 (by decide) ?_
  refine lv_iadd hx hb dL_law_245 ?_
  refine va_sld hx hb hX hbl hbA hS hj2 dL_law_246 ?_
  refine lv_aload_n hx hb dL_law_247 rfl (lv_at hl 0 rfl) ?_
  refine lv_iload_n hx hb dL_law_248 rfl (lv_at hl 3 rfl) ?_
  refine lv_iconst (v := 3) hx hb dL_law_249 (by decide) ?_
  refine lv_iadd hx hb dL_law_250 ?_
  refine va_sld hx hb hX hbl hbA hS hj3 dL_law_251 ?_
  refine lv_aload_n hx hb dL_law_252 rfl (lv_at hl 0 rfl) ?_
  refine lv_iload_n hx hb dL_law_253 rfl (lv_at hl 3 rfl) ?_
  refine lv_iconst (v := 4) hx hb dL_law_254 (by decide) ?_
  refine lv_iadd hx hb dL_law_255 ?_
  refine va_sld hx hb hX hbl hbA hS hj4 dL_law_256 ?_
  refine lv_aload_n hx hb dL_law_257 rfl (lv_at hl 0 rfl) ?_
  refine lv_iload_n hx hb dL_law_258 rfl (lv_at hl 3 rfl) ?_
  refine lv_iconst (v := 5) hx hb dL_law_259 (by decide) ?_
  refine lv_iadd hx hb dL_law_260 ?_
  refine va_sld hx hb hX hbl hbA hS hj5 dL_law_261 ?_
  refine lw_calll CC ⟨hPC, DC _, hS⟩ (As := [.int (xs (x3 + 1).toNatClampNeg), .int (xs (x3 + 2).toNatClampNeg), .int (xs (x3 + 3).toNatClampNeg), .int (xs (x3 + 4).toNatClampNeg), .int (xs (x3 + 5).toNatClampNeg)]) (m6_copy g6) wl6_copy (ci := 6) rfl zs0 rfl (by decide) hl.1 rfl (Nat.le_of_ble_eq_true rfl) dL_law_262 (by decide) (fun H1 locs1 hk hP1 => ?_)
  have hPM := lw_frC F hPM hk
  obtain ⟨hPC, -, hS⟩ := hP1
  refine lv_aload_n hx hb dL_law_265 rfl (lv_at hl 2 rfl) ?_
  refine lv_aload_n hx hb dL_law_266 rfl (lv_at hl 0 rfl) ?_
  refine lv_iload_n hx hb dL_law_267 rfl (lv_at hl 3 rfl) ?_
  refine lv_iconst (v := 1) hx hb dL_law_268 (by decide) ?_
  refine lv_iadd hx hb dL_law_269 ?_
  refine va_sld hx hb hX hbl hbA hS hj1 dL_law_270 ?_
  refine lv_aload_n hx hb dL_law_271 rfl (lv_at hl 0 rfl) ?_
  refine lv_iload_n hx hb dL_law_272 rfl (lv_at hl 3 rfl) ?_
  refine lv_iconst (v := 2) hx hb dL_law_273 (by decide) ?_
  refine lv_iadd hx hb dL_law_274 ?_
  refine va_sld hx hb hX hbl hbA hS hj2 dL_law_275 ?_
  refine lv_aload_n hx hb dL_law_276 rfl (lv_at hl 0 rfl) ?_
  refine lv_iload_n hx hb dL_law_277 rfl (lv_at hl 3 rfl) ?_
  refine lv_iconst (v := 3) hx hb dL_law_278 (by decide) ?_
  refine lv_iadd hx hb dL_law_279 ?_
  refine va_sld hx hb hX hbl hbA hS hj3 dL_law_280 ?_
  refine lv_aload_n hx hb dL_law_281 rfl (lv_at hl 0 rfl) ?_
  refine lv_iload_n hx hb dL_law_282 rfl (lv_at hl 3 rfl) ?_
  refine lv_iconst (v := 4) hx hb dL_law_283 (by decide) ?_
  refine lv_iadd hx hb dL_law_284 ?_
  refine va_sld hx hb hX hbl hbA hS hj4 dL_law_285 ?_
  refine lv_aload_n hx hb dL_law_286 rfl (lv_at hl 0 rfl) ?_
  refine lv_iload_n hx hb dL_law_287 rfl (lv_at hl 3 rfl) ?_
  refine lv_iconst (v := 5) hx hb dL_law_288 (by decide) ?_
  refine lv_iadd hx hb dL_law_289 ?_
  refine va_sld hx hb hX hbl hbA hS hj5 dL_law_290 ?_
  refine lw_calll CM ⟨hPM, DM _, hS⟩ (As := [.int (xs (x3 + 1).toNatClampNeg), .int (xs (x3 + 2).toNatClampNeg), .int (xs (x3 + 3).toNatClampNeg), .int (xs (x3 + 4).toNatClampNeg), .int (xs (x3 + 5).toNatClampNeg)]) (m7_copy g7) wl7_copy (ci := 7) rfl zm0 rfl (by decide) hl.1 rfl (Nat.le_of_ble_eq_true rfl) dL_law_291 (by decide) (fun H1 locs1 hk hP1 => ?_)
  have hPC := lw_frM F hPC hk
  obtain ⟨hPM, -, hS⟩ := hP1
  refine W.lcmp hx hb dL_law_294 ?_
  refine lv_if_eq (tgt := 1005) hx hb dL_law_295 (by decide) (fun _ => ?_) (fun q => absurd ((lg_cmp_eq _ _).mpr rfl) q)
  refine lv_iinc (v := x3 + 6) (lv' := [(3, .int (x3 + 6)), (0, .ref b), (1, .ref (adC 0)), (2, .ref (adM 0))]) hx hb dL_law_1005 hl (k := 3) rfl rfl (by decide) rfl (fun ls hl => ?_)
  refine lv_goto (tgt := 18) hx hb dL_law_1008 (by decide) ?_
  exact ih (i + 6) (x3 + 6) h6 (by omega) (by rw [ex3]; exact lw_six6 i) _ _ hI' _ _ hPC hPM hS ls (lv_sub hl [1, 2, 3, 0] rfl)
set_option maxHeartbeats 4000000 in
set_option maxRecDepth 100000 in
theorem law_c3 {p : Program} {l : Launch} {e : Env} {s : State} {m : MethodId} {below : List Frame} {meth : Method} {c : Code} {D : va_G} {cA : Nat → ClassId} {adC adM : Nat → Nat} {hC hM : Nat} {b L : Nat} {xs : Nat → Int32} {I : Zs → Zs → Prop} (hsim : zSim I) (hL : L ≤ 3072) (C0 : lw_At p s m meth c b L xs) (F : lwF s hC hM adC adM)
    (CC : zCx p s m #[Value.ref b] meth c code 4 R_law ret D adC cA (fun q : Nat => s.heap.size ≤ q)) (CM : zCx p s m #[Value.ref b] meth c code 4 R_law ret D adM cA (fun q : Nat => s.heap.size ≤ q)) (DC : ∀ S, va_D (fun q : Nat => s.heap.size ≤ q) (zw zC adC cA S)) (DM : ∀ S, va_D (fun q : Nat => s.heap.size ≤ q) (zw zM adM cA S))
    {n i : Nat} {x3 : Int32} (hi : i ≤ L) (hin : L + 6 ≤ i + (n + 1)) (ex3 : x3 = nI i) (h6 : i + 6 ≤ L) {SC SM : Zs} (hI : I SC SM) {H : Heap} {locs : List Loc} (hPC : va_P D zcl (zw zC adC cA SC) H) (hPM : va_P D zcl (zw zM adM cA SM) H) (hS : va_S (fun q : Nat => s.heap.size ≤ q) s.heap H locs) {ls : Array Slot} (hl : lv_has ls 4 [(0, .ref b), (1, .ref (adC 0)), (2, .ref (adM 0)), (3, .int x3)])
    (ih : ∀ (i : Nat) (x3 : Int32), i ≤ L → L + 6 ≤ i + n → x3 = nI i → ∀ (SC SM : Zs), I SC SM → ∀ (H : Heap) (locs : List Loc), va_P D zcl (zw zC adC cA SC) H → va_P D zcl (zw zM adM cA SM) H → va_S (fun q : Nat => s.heap.size ≤ q) s.heap H locs → ∀ (ls : Array Slot), lv_has ls 4 [(0, .ref b), (1, .ref (adC 0)), (2, .ref (adM 0)), (3, .int x3)] → W p l e room_1 s m #[Value.ref b] below meth c H locs 200 3000 (lw_Z below #[Value.ref b] s) (F0 m 18 ls [])) :
    W p l e room_1 s m #[Value.ref b] below meth c H locs 200 3000 (lw_Z below #[Value.ref b] s) (F0 m 300 ls []) := by
  have hx := CC.1
  have hb := CC.2.1
  obtain ⟨-, -, hr, -, -, -, hX, hbl, hlocks, -⟩ := C0
  have hbA : ¬ (fun q : Nat => s.heap.size ≤ q) b := Nat.not_le.mpr hbl
  have hj0 : vp_in x3 L := by rw [ex3]; exact lw_in0 (by omega) hL
  have hj1 : vp_in (x3 + 1) L := by rw [ex3]; exact lw_in (k := 1) (by omega) hL
  have hj2 : vp_in (x3 + 2) L := by rw [ex3]; exact lw_in (k := 2) (by omega) hL
  have hj3 : vp_in (x3 + 3) L := by rw [ex3]; exact lw_in (k := 3) (by omega) hL
  have hj4 : vp_in (x3 + 4) L := by rw [ex3]; exact lw_in (k := 4) (by omega) hL
  have hj5 : vp_in (x3 + 5) L := by rw [ex3]; exact lw_in (k := 5) (by omega) hL
  obtain ⟨r, SC', SM', g6, g7, hI'⟩ := hsim.2.2.2.1 SC SM (xs (x3 + 1).toNatClampNeg) hI
  refine lv_aload_n hx hb dL_law_300 rfl (lv_at hl 1 rfl) ?_
  refine lv_aload_n hx hb dL_law_301 rfl (lv_at hl 0 rfl) ?_
  refine lv_iload_n hx hb dL_law_302 rfl (lv_at hl 3 rfl) ?_
  refine lv_iconst (v := 1) hx hb dL_law_303 (by decide) ?_
  refine lv_iadd hx hb dL_law_304 ?_
  refine va_sld hx hb hX hbl hbA hS hj1 dL_law_305 ?_
  refine lw_calll CC ⟨hPC, DC _, hS⟩ (As := [.int (xs (x3 + 1).toNatClampNeg)]) (m6_drop g6) wl6_drop (ci := 6) rfl zs0 rfl (by decide) hl.1 rfl (Nat.le_of_ble_eq_true rfl) dL_law_306 (by decide) (fun H1 locs1 hk hP1 => ?_)
  have hPM := lw_frC F hPM hk
  obtain ⟨hPC, -, hS⟩ := hP1
  refine lv_aload_n hx hb dL_law_309 rfl (lv_at hl 2 rfl) ?_
  refine lv_aload_n hx hb dL_law_310 rfl (lv_at hl 0 rfl) ?_
  refine lv_iload_n hx hb dL_law_311 rfl (lv_at hl 3 rfl) ?_
  refine lv_iconst (v := 1) hx hb dL_law_312 (by decide) ?_
  refine lv_iadd hx hb dL_law_313 ?_
  refine va_sld hx hb hX hbl hbA hS hj1 dL_law_314 ?_
  refine lw_calll CM ⟨hPM, DM _, hS⟩ (As := [.int (xs (x3 + 1).toNatClampNeg)]) (m7_drop g7) wl7_drop (ci := 7) rfl zm0 rfl (by decide) hl.1 rfl (Nat.le_of_ble_eq_true rfl) dL_law_315 (by decide) (fun H1 locs1 hk hP1 => ?_)
  have hPC := lw_frM F hPC hk
  obtain ⟨hPM, -, hS⟩ := hP1
  refine W.lcmp hx hb dL_law_318 ?_
  refine lv_if_eq (tgt := 1005) hx hb dL_law_319 (by decide) (fun _ => ?_) (fun q => absurd ((lg_cmp_eq _ _).mpr rfl) q)
  refine lv_iinc (v := x3 + 6) (lv' := [(3, .int (x3 + 6)), (0, .ref b), (1, .ref (adC 0)), (2, .ref (adM 0))]) hx hb dL_law_1005 hl (k := 3) rfl rfl (by decide) rfl (fun ls hl => ?_)
  refine lv_goto (tgt := 18) hx hb dL_law_1008 (by decide) ?_
  exact ih (i + 6) (x3 + 6) h6 (by omega) (by rw [ex3]; exact lw_six6 i) _ _ hI' _ _ hPC hPM hS ls (lv_sub hl [1, 2, 3, 0] rfl)
set_option maxHeartbeats 4000000 in
set_option maxRecDepth 100000 in
theorem law_c4 {p : Program} {l : Launch} {e : Env} {s : State} {m : MethodId} {below : List Frame} {meth : Method} {c : Code} {D : va_G} {cA : Nat → ClassId} {adC adM : Nat → Nat} {hC hM : Nat} {b L : Nat} {xs : Nat → Int32} {I : Zs → Zs → Prop} (hsim : zSim I) (hL : L ≤ 3072) (C0 : lw_At p s m meth c b L xs) (F : lwF s hC hM adC adM)
    (CC : zCx p s m #[Value.ref b] meth c code 4 R_law ret D adC cA (fun q : Nat => s.heap.size ≤ q)) (CM : zCx p s m #[Value.ref b] meth c code 4 R_law ret D adM cA (fun q : Nat => s.heap.size ≤ q)) (DC : ∀ S, va_D (fun q : Nat => s.heap.size ≤ q) (zw zC adC cA S)) (DM : ∀ S, va_D (fun q : Nat => s.heap.size ≤ q) (zw zM adM cA S))
    {n i : Nat} {x3 : Int32} (hi : i ≤ L) (hin : L + 6 ≤ i + (n + 1)) (ex3 : x3 = nI i) (h6 : i + 6 ≤ L) {SC SM : Zs} (hI : I SC SM) {H : Heap} {locs : List Loc} (hPC : va_P D zcl (zw zC adC cA SC) H) (hPM : va_P D zcl (zw zM adM cA SM) H) (hS : va_S (fun q : Nat => s.heap.size ≤ q) s.heap H locs) {ls : Array Slot} (hl : lv_has ls 4 [(0, .ref b), (1, .ref (adC 0)), (2, .ref (adM 0)), (3, .int x3)])
    (ih : ∀ (i : Nat) (x3 : Int32), i ≤ L → L + 6 ≤ i + n → x3 = nI i → ∀ (SC SM : Zs), I SC SM → ∀ (H : Heap) (locs : List Loc), va_P D zcl (zw zC adC cA SC) H → va_P D zcl (zw zM adM cA SM) H → va_S (fun q : Nat => s.heap.size ≤ q) s.heap H locs → ∀ (ls : Array Slot), lv_has ls 4 [(0, .ref b), (1, .ref (adC 0)), (2, .ref (adM 0)), (3, .int x3)] → W p l e room_1 s m #[Value.ref b] below meth c H locs 200 3000 (lw_Z below #[Value.ref b] s) (F0 m 18 ls [])) :
    W p l e room_1 s m #[Value.ref b] below meth c H locs 200 3000 (lw_Z below #[Value.ref b] s) (F0 m 324 ls []) := by
  have hx := CC.1
  have hb := CC.2.1
  obtain ⟨-, -, hr, -, -, -, hX, hbl, hlocks, -⟩ := C0
  have hbA : ¬ (fun q : Nat => s.heap.size ≤ q) b := Nat.not_le.mpr hbl
  have hj0 : vp_in x3 L := by rw [ex3]; exact lw_in0 (by omega) hL
  have hj1 : vp_in (x3 + 1) L := by rw [ex3]; exact lw_in (k := 1) (by omega) hL
  have hj2 : vp_in (x3 + 2) L := by rw [ex3]; exact lw_in (k := 2) (by omega) hL
  have hj3 : vp_in (x3 + 3) L := by rw [ex3]; exact lw_in (k := 3) (by omega) hL
  have hj4 : vp_in (x3 + 4) L := by rw [ex3]; exact lw_in (k := 4) (by omega) hL
  have hj5 : vp_in (x3 + 5) L := by rw [ex3]; exact lw_in (k := 5) (by omega) hL
  obtain ⟨r, SC', SM', g6, g7, hI'⟩ := hsim.2.2.2.2.1 SC SM ((((xs (x3 + 1).toNatClampNeg).toInt64 <<< ((32 : Int32).toInt64 &&& 63)) ||| ((xs (x3 + 2).toNatClampNeg).toInt64 &&& (4294967295 : Int64)))) (xs (x3 + 3).toNatClampNeg) hI
  refine lv_aload_n hx hb dL_law_324 rfl (lv_at hl 1 rfl) ?_
  refine lv_aload_n hx hb dL_law_325 rfl (lv_at hl 0 rfl) ?_
  refine lv_iload_n hx hb dL_law_326 rfl (lv_at hl 3 rfl) ?_
  refine lv_iconst (v := 1) hx hb dL_law_327 (by decide) ?_
  refine lv_iadd hx hb dL_law_328 ?_
  refine va_sld hx hb hX hbl hbA hS hj1 dL_law_329 ?_
  refine lv_i2l hx hb dL_law_330 rfl ?_
  refine lv_bipush (v := 32) hx hb dL_law_331 (by decide) ?_
  refine lv_lshl hx hb dL_law_333 rfl ?_
  refine lv_aload_n hx hb dL_law_334 rfl (lv_at hl 0 rfl) ?_
  refine lv_iload_n hx hb dL_law_335 rfl (lv_at hl 3 rfl) ?_
  refine lv_iconst (v := 2) hx hb dL_law_336 (by decide) ?_
  refine lv_iadd hx hb dL_law_337 ?_
  refine va_sld hx hb hX hbl hbA hS hj2 dL_law_338 ?_
  refine lv_i2l hx hb dL_law_339 rfl ?_
  refine lv_ldc2 (v := 4294967295) hx hb CC.2.2.2.1 (CC.2.2.2.2.1 _ wlk_32) dL_law_340 ?_
  refine lv_land hx hb dL_law_343 ?_
  refine lv_lor hx hb dL_law_344 ?_
  refine lv_aload_n hx hb dL_law_345 rfl (lv_at hl 0 rfl) ?_
  refine lv_iload_n hx hb dL_law_346 rfl (lv_at hl 3 rfl) ?_
  refine lv_iconst (v := 3) hx hb dL_law_347 (by decide) ?_
  refine lv_iadd hx hb dL_law_348 ?_
  refine va_sld hx hb hX hbl hbA hS hj3 dL_law_349 ?_
  refine lw_calll CC ⟨hPC, DC _, hS⟩ (As := [.long ((((xs (x3 + 1).toNatClampNeg).toInt64 <<< ((32 : Int32).toInt64 &&& 63)) ||| ((xs (x3 + 2).toNatClampNeg).toInt64 &&& (4294967295 : Int64)))), .int (xs (x3 + 3).toNatClampNeg)]) (m6_feed g6) wl6_feed (ci := 6) rfl zs0 rfl (by decide) hl.1 rfl (Nat.le_of_ble_eq_true rfl) dL_law_350 (by decide) (fun H1 locs1 hk hP1 => ?_)
  have hPM := lw_frC F hPM hk
  obtain ⟨hPC, -, hS⟩ := hP1
  refine lv_aload_n hx hb dL_law_353 rfl (lv_at hl 2 rfl) ?_
  refine lv_aload_n hx hb dL_law_354 rfl (lv_at hl 0 rfl) ?_
  refine lv_iload_n hx hb dL_law_355 rfl (lv_at hl 3 rfl) ?_
  refine lv_iconst (v := 1) hx hb dL_law_356 (by decide) ?_
  refine lv_iadd hx hb dL_law_357 ?_
  refine va_sld hx hb hX hbl hbA hS hj1 dL_law_358 ?_
  refine lv_i2l hx hb dL_law_359 rfl ?_
  refine lv_bipush (v := 32) hx hb dL_law_360 (by decide) ?_
  refine lv_lshl hx hb dL_law_362 rfl ?_
  refine lv_aload_n hx hb dL_law_363 rfl (lv_at hl 0 rfl) ?_
  refine lv_iload_n hx hb dL_law_364 rfl (lv_at hl 3 rfl) ?_
  refine lv_iconst (v := 2) hx hb dL_law_365 (by decide) ?_
  refine lv_iadd hx hb dL_law_366 ?_
  refine va_sld hx hb hX hbl hbA hS hj2 dL_law_367 ?_
  refine lv_i2l hx hb dL_law_368 rfl ?_
  refine lv_ldc2 (v := 4294967295) hx hb CC.2.2.2.1 (CC.2.2.2.2.1 _ wlk_32) dL_law_369 ?_
  refine lv_land hx hb dL_law_372 ?_
  refine lv_lor hx hb dL_law_373 ?_
  refine lv_aload_n hx hb dL_law_374 rfl (lv_at hl 0 rfl) ?_
  refine lv_iload_n hx hb dL_law_375 rfl (lv_at hl 3 rfl) ?_
  refine lv_iconst (v := 3) hx hb dL_law_376 (by decide) ?_
  refine lv_iadd hx hb dL_law_377 ?_
  refine va_sld hx hb hX hbl hbA hS hj3 dL_law_378 ?_
  refine lw_calll CM ⟨hPM, DM _, hS⟩ (As := [.long ((((xs (x3 + 1).toNatClampNeg).toInt64 <<< ((32 : Int32).toInt64 &&& 63)) ||| ((xs (x3 + 2).toNatClampNeg).toInt64 &&& (4294967295 : Int64)))), .int (xs (x3 + 3).toNatClampNeg)]) (m7_feed g7) wl7_feed (ci := 7) rfl zm0 rfl (by decide) hl.1 rfl (Nat.le_of_ble_eq_true rfl) dL_law_379 (by decide) (fun H1 locs1 hk hP1 => ?_)
  have hPC := lw_frM F hPC hk
  obtain ⟨hPM, -, hS⟩ := hP1
  refine W.lcmp hx hb dL_law_382 ?_
  refine lv_if_eq (tgt := 1005) hx hb dL_law_383 (by decide) (fun _ => ?_) (fun q => absurd ((lg_cmp_eq _ _).mpr rfl) q)
  refine lv_iinc (v := x3 + 6) (lv' := [(3, .int (x3 + 6)), (0, .ref b), (1, .ref (adC 0)), (2, .ref (adM 0))]) hx hb dL_law_1005 hl (k := 3) rfl rfl (by decide) rfl (fun ls hl => ?_)
  refine lv_goto (tgt := 18) hx hb dL_law_1008 (by decide) ?_
  exact ih (i + 6) (x3 + 6) h6 (by omega) (by rw [ex3]; exact lw_six6 i) _ _ hI' _ _ hPC hPM hS ls (lv_sub hl [1, 2, 3, 0] rfl)
set_option maxHeartbeats 4000000 in
set_option maxRecDepth 100000 in
theorem law_c5 {p : Program} {l : Launch} {e : Env} {s : State} {m : MethodId} {below : List Frame} {meth : Method} {c : Code} {D : va_G} {cA : Nat → ClassId} {adC adM : Nat → Nat} {hC hM : Nat} {b L : Nat} {xs : Nat → Int32} {I : Zs → Zs → Prop} (hsim : zSim I) (hL : L ≤ 3072) (C0 : lw_At p s m meth c b L xs) (F : lwF s hC hM adC adM)
    (CC : zCx p s m #[Value.ref b] meth c code 4 R_law ret D adC cA (fun q : Nat => s.heap.size ≤ q)) (CM : zCx p s m #[Value.ref b] meth c code 4 R_law ret D adM cA (fun q : Nat => s.heap.size ≤ q)) (DC : ∀ S, va_D (fun q : Nat => s.heap.size ≤ q) (zw zC adC cA S)) (DM : ∀ S, va_D (fun q : Nat => s.heap.size ≤ q) (zw zM adM cA S))
    {n i : Nat} {x3 : Int32} (hi : i ≤ L) (hin : L + 6 ≤ i + (n + 1)) (ex3 : x3 = nI i) (h6 : i + 6 ≤ L) {SC SM : Zs} (hI : I SC SM) {H : Heap} {locs : List Loc} (hPC : va_P D zcl (zw zC adC cA SC) H) (hPM : va_P D zcl (zw zM adM cA SM) H) (hS : va_S (fun q : Nat => s.heap.size ≤ q) s.heap H locs) {ls : Array Slot} (hl : lv_has ls 4 [(0, .ref b), (1, .ref (adC 0)), (2, .ref (adM 0)), (3, .int x3)])
    (ih : ∀ (i : Nat) (x3 : Int32), i ≤ L → L + 6 ≤ i + n → x3 = nI i → ∀ (SC SM : Zs), I SC SM → ∀ (H : Heap) (locs : List Loc), va_P D zcl (zw zC adC cA SC) H → va_P D zcl (zw zM adM cA SM) H → va_S (fun q : Nat => s.heap.size ≤ q) s.heap H locs → ∀ (ls : Array Slot), lv_has ls 4 [(0, .ref b), (1, .ref (adC 0)), (2, .ref (adM 0)), (3, .int x3)] → W p l e room_1 s m #[Value.ref b] below meth c H locs 200 3000 (lw_Z below #[Value.ref b] s) (F0 m 18 ls [])) :
    W p l e room_1 s m #[Value.ref b] below meth c H locs 200 3000 (lw_Z below #[Value.ref b] s) (F0 m 388 ls []) := by
  have hx := CC.1
  have hb := CC.2.1
  obtain ⟨-, -, hr, -, -, -, hX, hbl, hlocks, -⟩ := C0
  have hbA : ¬ (fun q : Nat => s.heap.size ≤ q) b := Nat.not_le.mpr hbl
  have hj0 : vp_in x3 L := by rw [ex3]; exact lw_in0 (by omega) hL
  have hj1 : vp_in (x3 + 1) L := by rw [ex3]; exact lw_in (k := 1) (by omega) hL
  have hj2 : vp_in (x3 + 2) L := by rw [ex3]; exact lw_in (k := 2) (by omega) hL
  have hj3 : vp_in (x3 + 3) L := by rw [ex3]; exact lw_in (k := 3) (by omega) hL
  have hj4 : vp_in (x3 + 4) L := by rw [ex3]; exact lw_in (k := 4) (by omega) hL
  have hj5 : vp_in (x3 + 5) L := by rw [ex3]; exact lw_in (k := 5) (by omega) hL
  obtain ⟨r, SC', SM', g6, g7, hI'⟩ := hsim.2.2.2.2.2.1 SC SM hI
  refine lv_aload_n hx hb dL_law_388 rfl (lv_at hl 1 rfl) ?_
  refine lw_calll CC ⟨hPC, DC _, hS⟩ (As := []) (m6_world g6) wl6_world (ci := 6) rfl zs0 rfl (by decide) hl.1 rfl (Nat.le_of_ble_eq_true rfl) dL_law_389 (by decide) (fun H1 locs1 hk hP1 => ?_)
  have hPM := lw_frC F hPM hk
  obtain ⟨hPC, -, hS⟩ := hP1
  refine lv_aload_n hx hb dL_law_392 rfl (lv_at hl 2 rfl) ?_
  refine lw_calll CM ⟨hPM, DM _, hS⟩ (As := []) (m7_world g7) wl7_world (ci := 7) rfl zm0 rfl (by decide) hl.1 rfl (Nat.le_of_ble_eq_true rfl) dL_law_393 (by decide) (fun H1 locs1 hk hP1 => ?_)
  have hPC := lw_frM F hPC hk
  obtain ⟨hPM, -, hS⟩ := hP1
  refine W.lcmp hx hb dL_law_396 ?_
  refine lv_if_eq (tgt := 1005) hx hb dL_law_397 (by decide) (fun _ => ?_) (fun q => absurd ((lg_cmp_eq _ _).mpr rfl) q)
  refine lv_iinc (v := x3 + 6) (lv' := [(3, .int (x3 + 6)), (0, .ref b), (1, .ref (adC 0)), (2, .ref (adM 0))]) hx hb dL_law_1005 hl (k := 3) rfl rfl (by decide) rfl (fun ls hl => ?_)
  refine lv_goto (tgt := 18) hx hb dL_law_1008 (by decide) ?_
  exact ih (i + 6) (x3 + 6) h6 (by omega) (by rw [ex3]; exact lw_six6 i) _ _ hI' _ _ hPC hPM hS ls (lv_sub hl [1, 2, 3, 0] rfl)
set_option maxHeartbeats 4000000 in
set_option maxRecDepth 100000 in
theorem law_c6 {p : Program} {l : Launch} {e : Env} {s : State} {m : MethodId} {below : List Frame} {meth : Method} {c : Code} {D : va_G} {cA : Nat → ClassId} {adC adM : Nat → Nat} {hC hM : Nat} {b L : Nat} {xs : Nat → Int32} {I : Zs → Zs → Prop} (hsim : zSim I) (hL : L ≤ 3072) (C0 : lw_At p s m meth c b L xs) (F : lwF s hC hM adC adM)
    (CC : zCx p s m #[Value.ref b] meth c code 4 R_law ret D adC cA (fun q : Nat => s.heap.size ≤ q)) (CM : zCx p s m #[Value.ref b] meth c code 4 R_law ret D adM cA (fun q : Nat => s.heap.size ≤ q)) (DC : ∀ S, va_D (fun q : Nat => s.heap.size ≤ q) (zw zC adC cA S)) (DM : ∀ S, va_D (fun q : Nat => s.heap.size ≤ q) (zw zM adM cA S))
    {n i : Nat} {x3 : Int32} (hi : i ≤ L) (hin : L + 6 ≤ i + (n + 1)) (ex3 : x3 = nI i) (h6 : i + 6 ≤ L) {SC SM : Zs} (hI : I SC SM) {H : Heap} {locs : List Loc} (hPC : va_P D zcl (zw zC adC cA SC) H) (hPM : va_P D zcl (zw zM adM cA SM) H) (hS : va_S (fun q : Nat => s.heap.size ≤ q) s.heap H locs) {ls : Array Slot} (hl : lv_has ls 4 [(0, .ref b), (1, .ref (adC 0)), (2, .ref (adM 0)), (3, .int x3)])
    (ih : ∀ (i : Nat) (x3 : Int32), i ≤ L → L + 6 ≤ i + n → x3 = nI i → ∀ (SC SM : Zs), I SC SM → ∀ (H : Heap) (locs : List Loc), va_P D zcl (zw zC adC cA SC) H → va_P D zcl (zw zM adM cA SM) H → va_S (fun q : Nat => s.heap.size ≤ q) s.heap H locs → ∀ (ls : Array Slot), lv_has ls 4 [(0, .ref b), (1, .ref (adC 0)), (2, .ref (adM 0)), (3, .int x3)] → W p l e room_1 s m #[Value.ref b] below meth c H locs 200 3000 (lw_Z below #[Value.ref b] s) (F0 m 18 ls [])) :
    W p l e room_1 s m #[Value.ref b] below meth c H locs 200 3000 (lw_Z below #[Value.ref b] s) (F0 m 402 ls []) := by
  have hx := CC.1
  have hb := CC.2.1
  obtain ⟨-, -, hr, -, -, -, hX, hbl, hlocks, -⟩ := C0
  have hbA : ¬ (fun q : Nat => s.heap.size ≤ q) b := Nat.not_le.mpr hbl
  have hj0 : vp_in x3 L := by rw [ex3]; exact lw_in0 (by omega) hL
  have hj1 : vp_in (x3 + 1) L := by rw [ex3]; exact lw_in (k := 1) (by omega) hL
  have hj2 : vp_in (x3 + 2) L := by rw [ex3]; exact lw_in (k := 2) (by omega) hL
  have hj3 : vp_in (x3 + 3) L := by rw [ex3]; exact lw_in (k := 3) (by omega) hL
  have hj4 : vp_in (x3 + 4) L := by rw [ex3]; exact lw_in (k := 4) (by omega) hL
  have hj5 : vp_in (x3 + 5) L := by rw [ex3]; exact lw_in (k := 5) (by omega) hL
  obtain ⟨r, SC', SM', ⟨g6, e6⟩, g7, hI'⟩ := hsim.2.2.2.2.2.2.1 SC SM hI
  rw [e6] at hI'
  refine lv_aload_n hx hb dL_law_402 rfl (lv_at hl 1 rfl) ?_
  refine lw_calli CC ⟨hPC, DC _, hS⟩ (As := []) (by have q := m6_fault (l := l) (D := D) (cA := cA) (ad := adC) (S := SC); rw [g6] at q; exact q) wl6_fault (ci := 6) rfl zs0 rfl (by decide) hl.1 rfl (Nat.le_of_ble_eq_true rfl) dL_law_403 (by decide) (fun H1 locs1 hk hP1 => ?_)
  have hPM := lw_frC F hPM hk
  obtain ⟨hPC, -, hS⟩ := hP1
  refine lv_aload_n hx hb dL_law_406 rfl (lv_at hl 2 rfl) ?_
  refine lw_calli CM ⟨hPM, DM _, hS⟩ (As := []) (m7_fault g7) wl7_fault (ci := 7) rfl zm0 rfl (by decide) hl.1 rfl (Nat.le_of_ble_eq_true rfl) dL_law_407 (by decide) (fun H1 locs1 hk hP1 => ?_)
  have hPC := lw_frM F hPC hk
  obtain ⟨hPM, -, hS⟩ := hP1
  refine lv_icmp_eq (tgt := 1005) hx hb dL_law_410 (by decide) (fun _ => ?_) (fun q => absurd rfl q)
  refine lv_iinc (v := x3 + 6) (lv' := [(3, .int (x3 + 6)), (0, .ref b), (1, .ref (adC 0)), (2, .ref (adM 0))]) hx hb dL_law_1005 hl (k := 3) rfl rfl (by decide) rfl (fun ls hl => ?_)
  refine lv_goto (tgt := 18) hx hb dL_law_1008 (by decide) ?_
  exact ih (i + 6) (x3 + 6) h6 (by omega) (by rw [ex3]; exact lw_six6 i) _ _ hI' _ _ hPC hPM hS ls (lv_sub hl [1, 2, 3, 0] rfl)
set_option maxHeartbeats 4000000 in
set_option maxRecDepth 100000 in
theorem law_c7 {p : Program} {l : Launch} {e : Env} {s : State} {m : MethodId} {below : List Frame} {meth : Method} {c : Code} {D : va_G} {cA : Nat → ClassId} {adC adM : Nat → Nat} {hC hM : Nat} {b L : Nat} {xs : Nat → Int32} {I : Zs → Zs → Prop} (hsim : zSim I) (hL : L ≤ 3072) (C0 : lw_At p s m meth c b L xs) (F : lwF s hC hM adC adM)
    (CC : zCx p s m #[Value.ref b] meth c code 4 R_law ret D adC cA (fun q : Nat => s.heap.size ≤ q)) (CM : zCx p s m #[Value.ref b] meth c code 4 R_law ret D adM cA (fun q : Nat => s.heap.size ≤ q)) (DC : ∀ S, va_D (fun q : Nat => s.heap.size ≤ q) (zw zC adC cA S)) (DM : ∀ S, va_D (fun q : Nat => s.heap.size ≤ q) (zw zM adM cA S))
    {n i : Nat} {x3 : Int32} (hi : i ≤ L) (hin : L + 6 ≤ i + (n + 1)) (ex3 : x3 = nI i) (h6 : i + 6 ≤ L) {SC SM : Zs} (hI : I SC SM) {H : Heap} {locs : List Loc} (hPC : va_P D zcl (zw zC adC cA SC) H) (hPM : va_P D zcl (zw zM adM cA SM) H) (hS : va_S (fun q : Nat => s.heap.size ≤ q) s.heap H locs) {ls : Array Slot} (hl : lv_has ls 4 [(0, .ref b), (1, .ref (adC 0)), (2, .ref (adM 0)), (3, .int x3)])
    (ih : ∀ (i : Nat) (x3 : Int32), i ≤ L → L + 6 ≤ i + n → x3 = nI i → ∀ (SC SM : Zs), I SC SM → ∀ (H : Heap) (locs : List Loc), va_P D zcl (zw zC adC cA SC) H → va_P D zcl (zw zM adM cA SM) H → va_S (fun q : Nat => s.heap.size ≤ q) s.heap H locs → ∀ (ls : Array Slot), lv_has ls 4 [(0, .ref b), (1, .ref (adC 0)), (2, .ref (adM 0)), (3, .int x3)] → W p l e room_1 s m #[Value.ref b] below meth c H locs 200 3000 (lw_Z below #[Value.ref b] s) (F0 m 18 ls [])) :
    W p l e room_1 s m #[Value.ref b] below meth c H locs 200 3000 (lw_Z below #[Value.ref b] s) (F0 m 415 ls []) := by
  have hx := CC.1
  have hb := CC.2.1
  obtain ⟨-, -, hr, -, -, -, hX, hbl, hlocks, -⟩ := C0
  have hbA : ¬ (fun q : Nat => s.heap.size ≤ q) b := Nat.not_le.mpr hbl
  have hj0 : vp_in x3 L := by rw [ex3]; exact lw_in0 (by omega) hL
  have hj1 : vp_in (x3 + 1) L := by rw [ex3]; exact lw_in (k := 1) (by omega) hL
  have hj2 : vp_in (x3 + 2) L := by rw [ex3]; exact lw_in (k := 2) (by omega) hL
  have hj3 : vp_in (x3 + 3) L := by rw [ex3]; exact lw_in (k := 3) (by omega) hL
  have hj4 : vp_in (x3 + 4) L := by rw [ex3]; exact lw_in (k := 4) (by omega) hL
  have hj5 : vp_in (x3 + 5) L := by rw [ex3]; exact lw_in (k := 5) (by omega) hL
  obtain ⟨r, SC', SM', ⟨g6, e6⟩, g7, hI'⟩ := hsim.2.2.2.2.2.2.2.1 SC SM (xs (x3 + 1).toNatClampNeg) (xs (x3 + 2).toNatClampNeg) (xs (x3 + 3).toNatClampNeg) hI
  rw [e6] at hI'
  refine lv_aload_n hx hb dL_law_415 rfl (lv_at hl 1 rfl) ?_
  refine lv_aload_n hx hb dL_law_416 rfl (lv_at hl 0 rfl) ?_
  refine lv_iload_n hx hb dL_law_417 rfl (lv_at hl 3 rfl) ?_
  refine lv_iconst (v := 1) hx hb dL_law_418 (by decide) ?_
  refine lv_iadd hx hb dL_law_419 ?_
  refine va_sld hx hb hX hbl hbA hS hj1 dL_law_420 ?_
  refine lv_aload_n hx hb dL_law_421 rfl (lv_at hl 0 rfl) ?_
  refine lv_iload_n hx hb dL_law_422 rfl (lv_at hl 3 rfl) ?_
  refine lv_iconst (v := 2) hx hb dL_law_423 (by decide) ?_
  refine lv_iadd hx hb dL_law_424 ?_
  refine va_sld hx hb hX hbl hbA hS hj2 dL_law_425 ?_
  refine lv_aload_n hx hb dL_law_426 rfl (lv_at hl 0 rfl) ?_
  refine lv_iload_n hx hb dL_law_427 rfl (lv_at hl 3 rfl) ?_
  refine lv_iconst (v := 3) hx hb dL_law_428 (by decide) ?_
  refine lv_iadd hx hb dL_law_429 ?_
  refine va_sld hx hb hX hbl hbA hS hj3 dL_law_430 ?_
  refine lw_calll CC ⟨hPC, DC _, hS⟩ (As := [.int (xs (x3 + 1).toNatClampNeg), .int (xs (x3 + 2).toNatClampNeg), .int (xs (x3 + 3).toNatClampNeg)]) (m6_told g6) wl6_told (ci := 6) rfl zs0 rfl (by decide) hl.1 rfl (Nat.le_of_ble_eq_true rfl) dL_law_431 (by decide) (fun H1 locs1 hk hP1 => ?_)
  have hPM := lw_frC F hPM hk
  obtain ⟨hPC, -, hS⟩ := hP1
  refine lv_aload_n hx hb dL_law_434 rfl (lv_at hl 2 rfl) ?_
  refine lv_aload_n hx hb dL_law_435 rfl (lv_at hl 0 rfl) ?_
  refine lv_iload_n hx hb dL_law_436 rfl (lv_at hl 3 rfl) ?_
  refine lv_iconst (v := 1) hx hb dL_law_437 (by decide) ?_
  refine lv_iadd hx hb dL_law_438 ?_
  refine va_sld hx hb hX hbl hbA hS hj1 dL_law_439 ?_
  refine lv_aload_n hx hb dL_law_440 rfl (lv_at hl 0 rfl) ?_
  refine lv_iload_n hx hb dL_law_441 rfl (lv_at hl 3 rfl) ?_
  refine lv_iconst (v := 2) hx hb dL_law_442 (by decide) ?_
  refine lv_iadd hx hb dL_law_443 ?_
  refine va_sld hx hb hX hbl hbA hS hj2 dL_law_444 ?_
  refine lv_aload_n hx hb dL_law_445 rfl (lv_at hl 0 rfl) ?_
  refine lv_iload_n hx hb dL_law_446 rfl (lv_at hl 3 rfl) ?_
  refine lv_iconst (v := 3) hx hb dL_law_447 (by decide) ?_
  refine lv_iadd hx hb dL_law_448 ?_
  refine va_sld hx hb hX hbl hbA hS hj3 dL_law_449 ?_
  refine lw_calll CM ⟨hPM, DM _, hS⟩ (As := [.int (xs (x3 + 1).toNatClampNeg), .int (xs (x3 + 2).toNatClampNeg), .int (xs (x3 + 3).toNatClampNeg)]) (m7_told g7) wl7_told (ci := 7) rfl zm0 rfl (by decide) hl.1 rfl (Nat.le_of_ble_eq_true rfl) dL_law_450 (by decide) (fun H1 locs1 hk hP1 => ?_)
  have hPC := lw_frM F hPC hk
  obtain ⟨hPM, -, hS⟩ := hP1
  refine W.lcmp hx hb dL_law_453 ?_
  refine lv_if_eq (tgt := 1005) hx hb dL_law_454 (by decide) (fun _ => ?_) (fun q => absurd ((lg_cmp_eq _ _).mpr rfl) q)
  refine lv_iinc (v := x3 + 6) (lv' := [(3, .int (x3 + 6)), (0, .ref b), (1, .ref (adC 0)), (2, .ref (adM 0))]) hx hb dL_law_1005 hl (k := 3) rfl rfl (by decide) rfl (fun ls hl => ?_)
  refine lv_goto (tgt := 18) hx hb dL_law_1008 (by decide) ?_
  exact ih (i + 6) (x3 + 6) h6 (by omega) (by rw [ex3]; exact lw_six6 i) _ _ hI' _ _ hPC hPM hS ls (lv_sub hl [1, 2, 3, 0] rfl)
set_option maxHeartbeats 4000000 in
set_option maxRecDepth 100000 in
theorem law_c8 {p : Program} {l : Launch} {e : Env} {s : State} {m : MethodId} {below : List Frame} {meth : Method} {c : Code} {D : va_G} {cA : Nat → ClassId} {adC adM : Nat → Nat} {hC hM : Nat} {b L : Nat} {xs : Nat → Int32} {I : Zs → Zs → Prop} (hsim : zSim I) (hL : L ≤ 3072) (C0 : lw_At p s m meth c b L xs) (F : lwF s hC hM adC adM)
    (CC : zCx p s m #[Value.ref b] meth c code 4 R_law ret D adC cA (fun q : Nat => s.heap.size ≤ q)) (CM : zCx p s m #[Value.ref b] meth c code 4 R_law ret D adM cA (fun q : Nat => s.heap.size ≤ q)) (DC : ∀ S, va_D (fun q : Nat => s.heap.size ≤ q) (zw zC adC cA S)) (DM : ∀ S, va_D (fun q : Nat => s.heap.size ≤ q) (zw zM adM cA S))
    {n i : Nat} {x3 : Int32} (hi : i ≤ L) (hin : L + 6 ≤ i + (n + 1)) (ex3 : x3 = nI i) (h6 : i + 6 ≤ L) {SC SM : Zs} (hI : I SC SM) {H : Heap} {locs : List Loc} (hPC : va_P D zcl (zw zC adC cA SC) H) (hPM : va_P D zcl (zw zM adM cA SM) H) (hS : va_S (fun q : Nat => s.heap.size ≤ q) s.heap H locs) {ls : Array Slot} (hl : lv_has ls 4 [(0, .ref b), (1, .ref (adC 0)), (2, .ref (adM 0)), (3, .int x3)])
    (ih : ∀ (i : Nat) (x3 : Int32), i ≤ L → L + 6 ≤ i + n → x3 = nI i → ∀ (SC SM : Zs), I SC SM → ∀ (H : Heap) (locs : List Loc), va_P D zcl (zw zC adC cA SC) H → va_P D zcl (zw zM adM cA SM) H → va_S (fun q : Nat => s.heap.size ≤ q) s.heap H locs → ∀ (ls : Array Slot), lv_has ls 4 [(0, .ref b), (1, .ref (adC 0)), (2, .ref (adM 0)), (3, .int x3)] → W p l e room_1 s m #[Value.ref b] below meth c H locs 200 3000 (lw_Z below #[Value.ref b] s) (F0 m 18 ls [])) :
    W p l e room_1 s m #[Value.ref b] below meth c H locs 200 3000 (lw_Z below #[Value.ref b] s) (F0 m 459 ls []) := by
  have hx := CC.1
  have hb := CC.2.1
  obtain ⟨-, -, hr, -, -, -, hX, hbl, hlocks, -⟩ := C0
  have hbA : ¬ (fun q : Nat => s.heap.size ≤ q) b := Nat.not_le.mpr hbl
  have hj0 : vp_in x3 L := by rw [ex3]; exact lw_in0 (by omega) hL
  have hj1 : vp_in (x3 + 1) L := by rw [ex3]; exact lw_in (k := 1) (by omega) hL
  have hj2 : vp_in (x3 + 2) L := by rw [ex3]; exact lw_in (k := 2) (by omega) hL
  have hj3 : vp_in (x3 + 3) L := by rw [ex3]; exact lw_in (k := 3) (by omega) hL
  have hj4 : vp_in (x3 + 4) L := by rw [ex3]; exact lw_in (k := 4) (by omega) hL
  have hj5 : vp_in (x3 + 5) L := by rw [ex3]; exact lw_in (k := 5) (by omega) hL
  obtain ⟨r, SC', SM', ⟨g6, e6⟩, g7, hI'⟩ := hsim.2.2.2.2.2.2.2.2.1 SC SM (xs (x3 + 1).toNatClampNeg) (xs (x3 + 2).toNatClampNeg) hI
  rw [e6] at hI'
  refine lv_aload_n hx hb dL_law_459 rfl (lv_at hl 1 rfl) ?_
  refine lv_aload_n hx hb dL_law_460 rfl (lv_at hl 0 rfl) ?_
  refine lv_iload_n hx hb dL_law_461 rfl (lv_at hl 3 rfl) ?_
  refine lv_iconst (v := 1) hx hb dL_law_462 (by decide) ?_
  refine lv_iadd hx hb dL_law_463 ?_
  refine va_sld hx hb hX hbl hbA hS hj1 dL_law_464 ?_
  refine lv_aload_n hx hb dL_law_465 rfl (lv_at hl 0 rfl) ?_
  refine lv_iload_n hx hb dL_law_466 rfl (lv_at hl 3 rfl) ?_
  refine lv_iconst (v := 2) hx hb dL_law_467 (by decide) ?_
  refine lv_iadd hx hb dL_law_468 ?_
  refine va_sld hx hb hX hbl hbA hS hj2 dL_law_469 ?_
  refine lw_calll CC ⟨hPC, DC _, hS⟩ (As := [.int (xs (x3 + 1).toNatClampNeg), .int (xs (x3 + 2).toNatClampNeg)]) (m6_wage g6) wl6_wage (ci := 6) rfl zs0 rfl (by decide) hl.1 rfl (Nat.le_of_ble_eq_true rfl) dL_law_470 (by decide) (fun H1 locs1 hk hP1 => ?_)
  have hPM := lw_frC F hPM hk
  obtain ⟨hPC, -, hS⟩ := hP1
  refine lv_aload_n hx hb dL_law_473 rfl (lv_at hl 2 rfl) ?_
  refine lv_aload_n hx hb dL_law_474 rfl (lv_at hl 0 rfl) ?_
  refine lv_iload_n hx hb dL_law_475 rfl (lv_at hl 3 rfl) ?_
  refine lv_iconst (v := 1) hx hb dL_law_476 (by decide) ?_
  refine lv_iadd hx hb dL_law_477 ?_
  refine va_sld hx hb hX hbl hbA hS hj1 dL_law_478 ?_
  refine lv_aload_n hx hb dL_law_479 rfl (lv_at hl 0 rfl) ?_
  refine lv_iload_n hx hb dL_law_480 rfl (lv_at hl 3 rfl) ?_
  refine lv_iconst (v := 2) hx hb dL_law_481 (by decide) ?_
  refine lv_iadd hx hb dL_law_482 ?_
  refine va_sld hx hb hX hbl hbA hS hj2 dL_law_483 ?_
  refine lw_calll CM ⟨hPM, DM _, hS⟩ (As := [.int (xs (x3 + 1).toNatClampNeg), .int (xs (x3 + 2).toNatClampNeg)]) (m7_wage g7) wl7_wage (ci := 7) rfl zm0 rfl (by decide) hl.1 rfl (Nat.le_of_ble_eq_true rfl) dL_law_484 (by decide) (fun H1 locs1 hk hP1 => ?_)
  have hPC := lw_frM F hPC hk
  obtain ⟨hPM, -, hS⟩ := hP1
  refine W.lcmp hx hb dL_law_487 ?_
  refine lv_if_eq (tgt := 1005) hx hb dL_law_488 (by decide) (fun _ => ?_) (fun q => absurd ((lg_cmp_eq _ _).mpr rfl) q)
  refine lv_iinc (v := x3 + 6) (lv' := [(3, .int (x3 + 6)), (0, .ref b), (1, .ref (adC 0)), (2, .ref (adM 0))]) hx hb dL_law_1005 hl (k := 3) rfl rfl (by decide) rfl (fun ls hl => ?_)
  refine lv_goto (tgt := 18) hx hb dL_law_1008 (by decide) ?_
  exact ih (i + 6) (x3 + 6) h6 (by omega) (by rw [ex3]; exact lw_six6 i) _ _ hI' _ _ hPC hPM hS ls (lv_sub hl [1, 2, 3, 0] rfl)
set_option maxHeartbeats 4000000 in
set_option maxRecDepth 100000 in
theorem law_c9 {p : Program} {l : Launch} {e : Env} {s : State} {m : MethodId} {below : List Frame} {meth : Method} {c : Code} {D : va_G} {cA : Nat → ClassId} {adC adM : Nat → Nat} {hC hM : Nat} {b L : Nat} {xs : Nat → Int32} {I : Zs → Zs → Prop} (hsim : zSim I) (hL : L ≤ 3072) (C0 : lw_At p s m meth c b L xs) (F : lwF s hC hM adC adM)
    (CC : zCx p s m #[Value.ref b] meth c code 4 R_law ret D adC cA (fun q : Nat => s.heap.size ≤ q)) (CM : zCx p s m #[Value.ref b] meth c code 4 R_law ret D adM cA (fun q : Nat => s.heap.size ≤ q)) (DC : ∀ S, va_D (fun q : Nat => s.heap.size ≤ q) (zw zC adC cA S)) (DM : ∀ S, va_D (fun q : Nat => s.heap.size ≤ q) (zw zM adM cA S))
    {n i : Nat} {x3 : Int32} (hi : i ≤ L) (hin : L + 6 ≤ i + (n + 1)) (ex3 : x3 = nI i) (h6 : i + 6 ≤ L) {SC SM : Zs} (hI : I SC SM) {H : Heap} {locs : List Loc} (hPC : va_P D zcl (zw zC adC cA SC) H) (hPM : va_P D zcl (zw zM adM cA SM) H) (hS : va_S (fun q : Nat => s.heap.size ≤ q) s.heap H locs) {ls : Array Slot} (hl : lv_has ls 4 [(0, .ref b), (1, .ref (adC 0)), (2, .ref (adM 0)), (3, .int x3)])
    (ih : ∀ (i : Nat) (x3 : Int32), i ≤ L → L + 6 ≤ i + n → x3 = nI i → ∀ (SC SM : Zs), I SC SM → ∀ (H : Heap) (locs : List Loc), va_P D zcl (zw zC adC cA SC) H → va_P D zcl (zw zM adM cA SM) H → va_S (fun q : Nat => s.heap.size ≤ q) s.heap H locs → ∀ (ls : Array Slot), lv_has ls 4 [(0, .ref b), (1, .ref (adC 0)), (2, .ref (adM 0)), (3, .int x3)] → W p l e room_1 s m #[Value.ref b] below meth c H locs 200 3000 (lw_Z below #[Value.ref b] s) (F0 m 18 ls [])) :
    W p l e room_1 s m #[Value.ref b] below meth c H locs 200 3000 (lw_Z below #[Value.ref b] s) (F0 m 493 ls []) := by
  have hx := CC.1
  have hb := CC.2.1
  obtain ⟨-, -, hr, -, -, -, hX, hbl, hlocks, -⟩ := C0
  have hbA : ¬ (fun q : Nat => s.heap.size ≤ q) b := Nat.not_le.mpr hbl
  have hj0 : vp_in x3 L := by rw [ex3]; exact lw_in0 (by omega) hL
  have hj1 : vp_in (x3 + 1) L := by rw [ex3]; exact lw_in (k := 1) (by omega) hL
  have hj2 : vp_in (x3 + 2) L := by rw [ex3]; exact lw_in (k := 2) (by omega) hL
  have hj3 : vp_in (x3 + 3) L := by rw [ex3]; exact lw_in (k := 3) (by omega) hL
  have hj4 : vp_in (x3 + 4) L := by rw [ex3]; exact lw_in (k := 4) (by omega) hL
  have hj5 : vp_in (x3 + 5) L := by rw [ex3]; exact lw_in (k := 5) (by omega) hL
  obtain ⟨r, SC', SM', ⟨g6, e6⟩, g7, hI'⟩ := hsim.2.2.2.2.2.2.2.2.2.1 SC SM (xs (x3 + 1).toNatClampNeg) (xs (x3 + 2).toNatClampNeg) hI
  rw [e6] at hI'
  refine lv_aload_n hx hb dL_law_493 rfl (lv_at hl 1 rfl) ?_
  refine lv_aload_n hx hb dL_law_494 rfl (lv_at hl 0 rfl) ?_
  refine lv_iload_n hx hb dL_law_495 rfl (lv_at hl 3 rfl) ?_
  refine lv_iconst (v := 1) hx hb dL_law_496 (by decide) ?_
  refine lv_iadd hx hb dL_law_497 ?_
  refine va_sld hx hb hX hbl hbA hS hj1 dL_law_498 ?_
  refine lv_aload_n hx hb dL_law_499 rfl (lv_at hl 0 rfl) ?_
  refine lv_iload_n hx hb dL_law_500 rfl (lv_at hl 3 rfl) ?_
  refine lv_iconst (v := 2) hx hb dL_law_501 (by decide) ?_
  refine lv_iadd hx hb dL_law_502 ?_
  refine va_sld hx hb hX hbl hbA hS hj2 dL_law_503 ?_
  refine lw_calll CC ⟨hPC, DC _, hS⟩ (As := [.int (xs (x3 + 1).toNatClampNeg), .int (xs (x3 + 2).toNatClampNeg)]) (m6_price g6) wl6_price (ci := 6) rfl zs0 rfl (by decide) hl.1 rfl (Nat.le_of_ble_eq_true rfl) dL_law_504 (by decide) (fun H1 locs1 hk hP1 => ?_)
  have hPM := lw_frC F hPM hk
  obtain ⟨hPC, -, hS⟩ := hP1
  refine lv_aload_n hx hb dL_law_507 rfl (lv_at hl 2 rfl) ?_
  refine lv_aload_n hx hb dL_law_508 rfl (lv_at hl 0 rfl) ?_
  refine lv_iload_n hx hb dL_law_509 rfl (lv_at hl 3 rfl) ?_
  refine lv_iconst (v := 1) hx hb dL_law_510 (by decide) ?_
  refine lv_iadd hx hb dL_law_511 ?_
  refine va_sld hx hb hX hbl hbA hS hj1 dL_law_512 ?_
  refine lv_aload_n hx hb dL_law_513 rfl (lv_at hl 0 rfl) ?_
  refine lv_iload_n hx hb dL_law_514 rfl (lv_at hl 3 rfl) ?_
  refine lv_iconst (v := 2) hx hb dL_law_515 (by decide) ?_
  refine lv_iadd hx hb dL_law_516 ?_
  refine va_sld hx hb hX hbl hbA hS hj2 dL_law_517 ?_
  refine lw_calll CM ⟨hPM, DM _, hS⟩ (As := [.int (xs (x3 + 1).toNatClampNeg), .int (xs (x3 + 2).toNatClampNeg)]) (m7_price g7) wl7_price (ci := 7) rfl zm0 rfl (by decide) hl.1 rfl (Nat.le_of_ble_eq_true rfl) dL_law_518 (by decide) (fun H1 locs1 hk hP1 => ?_)
  have hPC := lw_frM F hPC hk
  obtain ⟨hPM, -, hS⟩ := hP1
  refine W.lcmp hx hb dL_law_521 ?_
  refine lv_if_eq (tgt := 1005) hx hb dL_law_522 (by decide) (fun _ => ?_) (fun q => absurd ((lg_cmp_eq _ _).mpr rfl) q)
  refine lv_iinc (v := x3 + 6) (lv' := [(3, .int (x3 + 6)), (0, .ref b), (1, .ref (adC 0)), (2, .ref (adM 0))]) hx hb dL_law_1005 hl (k := 3) rfl rfl (by decide) rfl (fun ls hl => ?_)
  refine lv_goto (tgt := 18) hx hb dL_law_1008 (by decide) ?_
  exact ih (i + 6) (x3 + 6) h6 (by omega) (by rw [ex3]; exact lw_six6 i) _ _ hI' _ _ hPC hPM hS ls (lv_sub hl [1, 2, 3, 0] rfl)
set_option maxHeartbeats 4000000 in
set_option maxRecDepth 100000 in
theorem law_c10 {p : Program} {l : Launch} {e : Env} {s : State} {m : MethodId} {below : List Frame} {meth : Method} {c : Code} {D : va_G} {cA : Nat → ClassId} {adC adM : Nat → Nat} {hC hM : Nat} {b L : Nat} {xs : Nat → Int32} {I : Zs → Zs → Prop} (hsim : zSim I) (hL : L ≤ 3072) (C0 : lw_At p s m meth c b L xs) (F : lwF s hC hM adC adM)
    (CC : zCx p s m #[Value.ref b] meth c code 4 R_law ret D adC cA (fun q : Nat => s.heap.size ≤ q)) (CM : zCx p s m #[Value.ref b] meth c code 4 R_law ret D adM cA (fun q : Nat => s.heap.size ≤ q)) (DC : ∀ S, va_D (fun q : Nat => s.heap.size ≤ q) (zw zC adC cA S)) (DM : ∀ S, va_D (fun q : Nat => s.heap.size ≤ q) (zw zM adM cA S))
    {n i : Nat} {x3 : Int32} (hi : i ≤ L) (hin : L + 6 ≤ i + (n + 1)) (ex3 : x3 = nI i) (h6 : i + 6 ≤ L) {SC SM : Zs} (hI : I SC SM) {H : Heap} {locs : List Loc} (hPC : va_P D zcl (zw zC adC cA SC) H) (hPM : va_P D zcl (zw zM adM cA SM) H) (hS : va_S (fun q : Nat => s.heap.size ≤ q) s.heap H locs) {ls : Array Slot} (hl : lv_has ls 4 [(0, .ref b), (1, .ref (adC 0)), (2, .ref (adM 0)), (3, .int x3)])
    (ih : ∀ (i : Nat) (x3 : Int32), i ≤ L → L + 6 ≤ i + n → x3 = nI i → ∀ (SC SM : Zs), I SC SM → ∀ (H : Heap) (locs : List Loc), va_P D zcl (zw zC adC cA SC) H → va_P D zcl (zw zM adM cA SM) H → va_S (fun q : Nat => s.heap.size ≤ q) s.heap H locs → ∀ (ls : Array Slot), lv_has ls 4 [(0, .ref b), (1, .ref (adC 0)), (2, .ref (adM 0)), (3, .int x3)] → W p l e room_1 s m #[Value.ref b] below meth c H locs 200 3000 (lw_Z below #[Value.ref b] s) (F0 m 18 ls [])) :
    W p l e room_1 s m #[Value.ref b] below meth c H locs 200 3000 (lw_Z below #[Value.ref b] s) (F0 m 527 ls []) := by
  have hx := CC.1
  have hb := CC.2.1
  obtain ⟨-, -, hr, -, -, -, hX, hbl, hlocks, -⟩ := C0
  have hbA : ¬ (fun q : Nat => s.heap.size ≤ q) b := Nat.not_le.mpr hbl
  have hj0 : vp_in x3 L := by rw [ex3]; exact lw_in0 (by omega) hL
  have hj1 : vp_in (x3 + 1) L := by rw [ex3]; exact lw_in (k := 1) (by omega) hL
  have hj2 : vp_in (x3 + 2) L := by rw [ex3]; exact lw_in (k := 2) (by omega) hL
  have hj3 : vp_in (x3 + 3) L := by rw [ex3]; exact lw_in (k := 3) (by omega) hL
  have hj4 : vp_in (x3 + 4) L := by rw [ex3]; exact lw_in (k := 4) (by omega) hL
  have hj5 : vp_in (x3 + 5) L := by rw [ex3]; exact lw_in (k := 5) (by omega) hL
  obtain ⟨r, SC', SM', ⟨g6, e6⟩, g7, hI'⟩ := hsim.2.2.2.2.2.2.2.2.2.2.1 SC SM (xs (x3 + 1).toNatClampNeg) (xs (x3 + 2).toNatClampNeg) (xs (x3 + 3).toNatClampNeg) hI
  rw [e6] at hI'
  refine lv_aload_n hx hb dL_law_527 rfl (lv_at hl 1 rfl) ?_
  refine lv_aload_n hx hb dL_law_528 rfl (lv_at hl 0 rfl) ?_
  refine lv_iload_n hx hb dL_law_529 rfl (lv_at hl 3 rfl) ?_
  refine lv_iconst (v := 1) hx hb dL_law_530 (by decide) ?_
  refine lv_iadd hx hb dL_law_531 ?_
  refine va_sld hx hb hX hbl hbA hS hj1 dL_law_532 ?_
  refine lv_aload_n hx hb dL_law_533 rfl (lv_at hl 0 rfl) ?_
  refine lv_iload_n hx hb dL_law_534 rfl (lv_at hl 3 rfl) ?_
  refine lv_iconst (v := 2) hx hb dL_law_535 (by decide) ?_
  refine lv_iadd hx hb dL_law_536 ?_
  refine va_sld hx hb hX hbl hbA hS hj2 dL_law_537 ?_
  refine lv_aload_n hx hb dL_law_538 rfl (lv_at hl 0 rfl) ?_
  refine lv_iload_n hx hb dL_law_539 rfl (lv_at hl 3 rfl) ?_
  refine lv_iconst (v := 3) hx hb dL_law_540 (by decide) ?_
  refine lv_iadd hx hb dL_law_541 ?_
  refine va_sld hx hb hX hbl hbA hS hj3 dL_law_542 ?_
  refine lw_calll CC ⟨hPC, DC _, hS⟩ (As := [.int (xs (x3 + 1).toNatClampNeg), .int (xs (x3 + 2).toNatClampNeg), .int (xs (x3 + 3).toNatClampNeg)]) (m6_gain g6) wl6_gain (ci := 6) rfl zs0 rfl (by decide) hl.1 rfl (Nat.le_of_ble_eq_true rfl) dL_law_543 (by decide) (fun H1 locs1 hk hP1 => ?_)
  have hPM := lw_frC F hPM hk
  obtain ⟨hPC, -, hS⟩ := hP1
  refine lv_aload_n hx hb dL_law_546 rfl (lv_at hl 2 rfl) ?_
  refine lv_aload_n hx hb dL_law_547 rfl (lv_at hl 0 rfl) ?_
  refine lv_iload_n hx hb dL_law_548 rfl (lv_at hl 3 rfl) ?_
  refine lv_iconst (v := 1) hx hb dL_law_549 (by decide) ?_
  refine lv_iadd hx hb dL_law_550 ?_
  refine va_sld hx hb hX hbl hbA hS hj1 dL_law_551 ?_
  refine lv_aload_n hx hb dL_law_552 rfl (lv_at hl 0 rfl) ?_
  refine lv_iload_n hx hb dL_law_553 rfl (lv_at hl 3 rfl) ?_
  refine lv_iconst (v := 2) hx hb dL_law_554 (by decide) ?_
  refine lv_iadd hx hb dL_law_555 ?_
  refine va_sld hx hb hX hbl hbA hS hj2 dL_law_556 ?_
  refine lv_aload_n hx hb dL_law_557 rfl (lv_at hl 0 rfl) ?_
  refine lv_iload_n hx hb dL_law_558 rfl (lv_at hl 3 rfl) ?_
  refine lv_iconst (v := 3) hx hb dL_law_559 (by decide) ?_
  refine lv_iadd hx hb dL_law_560 ?_
  refine va_sld hx hb hX hbl hbA hS hj3 dL_law_561 ?_
  refine lw_calll CM ⟨hPM, DM _, hS⟩ (As := [.int (xs (x3 + 1).toNatClampNeg), .int (xs (x3 + 2).toNatClampNeg), .int (xs (x3 + 3).toNatClampNeg)]) (m7_gain g7) wl7_gain (ci := 7) rfl zm0 rfl (by decide) hl.1 rfl (Nat.le_of_ble_eq_true rfl) dL_law_562 (by decide) (fun H1 locs1 hk hP1 => ?_)
  have hPC := lw_frM F hPC hk
  obtain ⟨hPM, -, hS⟩ := hP1
  refine W.lcmp hx hb dL_law_565 ?_
  refine lv_if_eq (tgt := 1005) hx hb dL_law_566 (by decide) (fun _ => ?_) (fun q => absurd ((lg_cmp_eq _ _).mpr rfl) q)
  refine lv_iinc (v := x3 + 6) (lv' := [(3, .int (x3 + 6)), (0, .ref b), (1, .ref (adC 0)), (2, .ref (adM 0))]) hx hb dL_law_1005 hl (k := 3) rfl rfl (by decide) rfl (fun ls hl => ?_)
  refine lv_goto (tgt := 18) hx hb dL_law_1008 (by decide) ?_
  exact ih (i + 6) (x3 + 6) h6 (by omega) (by rw [ex3]; exact lw_six6 i) _ _ hI' _ _ hPC hPM hS ls (lv_sub hl [1, 2, 3, 0] rfl)
set_option maxHeartbeats 4000000 in
set_option maxRecDepth 100000 in
theorem law_c11 {p : Program} {l : Launch} {e : Env} {s : State} {m : MethodId} {below : List Frame} {meth : Method} {c : Code} {D : va_G} {cA : Nat → ClassId} {adC adM : Nat → Nat} {hC hM : Nat} {b L : Nat} {xs : Nat → Int32} {I : Zs → Zs → Prop} (hsim : zSim I) (hL : L ≤ 3072) (C0 : lw_At p s m meth c b L xs) (F : lwF s hC hM adC adM)
    (CC : zCx p s m #[Value.ref b] meth c code 4 R_law ret D adC cA (fun q : Nat => s.heap.size ≤ q)) (CM : zCx p s m #[Value.ref b] meth c code 4 R_law ret D adM cA (fun q : Nat => s.heap.size ≤ q)) (DC : ∀ S, va_D (fun q : Nat => s.heap.size ≤ q) (zw zC adC cA S)) (DM : ∀ S, va_D (fun q : Nat => s.heap.size ≤ q) (zw zM adM cA S))
    {n i : Nat} {x3 : Int32} (hi : i ≤ L) (hin : L + 6 ≤ i + (n + 1)) (ex3 : x3 = nI i) (h6 : i + 6 ≤ L) {SC SM : Zs} (hI : I SC SM) {H : Heap} {locs : List Loc} (hPC : va_P D zcl (zw zC adC cA SC) H) (hPM : va_P D zcl (zw zM adM cA SM) H) (hS : va_S (fun q : Nat => s.heap.size ≤ q) s.heap H locs) {ls : Array Slot} (hl : lv_has ls 4 [(0, .ref b), (1, .ref (adC 0)), (2, .ref (adM 0)), (3, .int x3)])
    (ih : ∀ (i : Nat) (x3 : Int32), i ≤ L → L + 6 ≤ i + n → x3 = nI i → ∀ (SC SM : Zs), I SC SM → ∀ (H : Heap) (locs : List Loc), va_P D zcl (zw zC adC cA SC) H → va_P D zcl (zw zM adM cA SM) H → va_S (fun q : Nat => s.heap.size ≤ q) s.heap H locs → ∀ (ls : Array Slot), lv_has ls 4 [(0, .ref b), (1, .ref (adC 0)), (2, .ref (adM 0)), (3, .int x3)] → W p l e room_1 s m #[Value.ref b] below meth c H locs 200 3000 (lw_Z below #[Value.ref b] s) (F0 m 18 ls [])) :
    W p l e room_1 s m #[Value.ref b] below meth c H locs 200 3000 (lw_Z below #[Value.ref b] s) (F0 m 571 ls []) := by
  have hx := CC.1
  have hb := CC.2.1
  obtain ⟨-, -, hr, -, -, -, hX, hbl, hlocks, -⟩ := C0
  have hbA : ¬ (fun q : Nat => s.heap.size ≤ q) b := Nat.not_le.mpr hbl
  have hj0 : vp_in x3 L := by rw [ex3]; exact lw_in0 (by omega) hL
  have hj1 : vp_in (x3 + 1) L := by rw [ex3]; exact lw_in (k := 1) (by omega) hL
  have hj2 : vp_in (x3 + 2) L := by rw [ex3]; exact lw_in (k := 2) (by omega) hL
  have hj3 : vp_in (x3 + 3) L := by rw [ex3]; exact lw_in (k := 3) (by omega) hL
  have hj4 : vp_in (x3 + 4) L := by rw [ex3]; exact lw_in (k := 4) (by omega) hL
  have hj5 : vp_in (x3 + 5) L := by rw [ex3]; exact lw_in (k := 5) (by omega) hL
  obtain ⟨r, SC', SM', g6, g7, hI'⟩ := hsim.2.2.2.2.2.2.2.2.2.2.2.1 SC SM (xs (x3 + 1).toNatClampNeg) (xs (x3 + 2).toNatClampNeg) hI
  refine lv_aload_n hx hb dL_law_571 rfl (lv_at hl 1 rfl) ?_
  refine lv_aload_n hx hb dL_law_572 rfl (lv_at hl 0 rfl) ?_
  refine lv_iload_n hx hb dL_law_573 rfl (lv_at hl 3 rfl) ?_
  refine lv_iconst (v := 1) hx hb dL_law_574 (by decide) ?_
  refine lv_iadd hx hb dL_law_575 ?_
  refine va_sld hx hb hX hbl hbA hS hj1 dL_law_576 ?_
  refine lv_aload_n hx hb dL_law_577 rfl (lv_at hl 0 rfl) ?_
  refine lv_iload_n hx hb dL_law_578 rfl (lv_at hl 3 rfl) ?_
  refine lv_iconst (v := 2) hx hb dL_law_579 (by decide) ?_
  refine lv_iadd hx hb dL_law_580 ?_
  refine va_sld hx hb hX hbl hbA hS hj2 dL_law_581 ?_
  refine lw_calll CC ⟨hPC, DC _, hS⟩ (As := [.int (xs (x3 + 1).toNatClampNeg), .int (xs (x3 + 2).toNatClampNeg)]) (m6_judge g6) wl6_judge (ci := 6) rfl zs0 rfl (by decide) hl.1 rfl (Nat.le_of_ble_eq_true rfl) dL_law_582 (by decide) (fun H1 locs1 hk hP1 => ?_)
  have hPM := lw_frC F hPM hk
  obtain ⟨hPC, -, hS⟩ := hP1
  refine lv_aload_n hx hb dL_law_585 rfl (lv_at hl 2 rfl) ?_
  refine lv_aload_n hx hb dL_law_586 rfl (lv_at hl 0 rfl) ?_
  refine lv_iload_n hx hb dL_law_587 rfl (lv_at hl 3 rfl) ?_
  refine lv_iconst (v := 1) hx hb dL_law_588 (by decide) ?_
  refine lv_iadd hx hb dL_law_589 ?_
  refine va_sld hx hb hX hbl hbA hS hj1 dL_law_590 ?_
  refine lv_aload_n hx hb dL_law_591 rfl (lv_at hl 0 rfl) ?_
  refine lv_iload_n hx hb dL_law_592 rfl (lv_at hl 3 rfl) ?_
  refine lv_iconst (v := 2) hx hb dL_law_593 (by decide) ?_
  refine lv_iadd hx hb dL_law_594 ?_
  refine va_sld hx hb hX hbl hbA hS hj2 dL_law_595 ?_
  refine lw_calll CM ⟨hPM, DM _, hS⟩ (As := [.int (xs (x3 + 1).toNatClampNeg), .int (xs (x3 + 2).toNatClampNeg)]) (m7_judge g7) wl7_judge (ci := 7) rfl zm0 rfl (by decide) hl.1 rfl (Nat.le_of_ble_eq_true rfl) dL_law_596 (by decide) (fun H1 locs1 hk hP1 => ?_)
  have hPC := lw_frM F hPC hk
  obtain ⟨hPM, -, hS⟩ := hP1
  refine W.lcmp hx hb dL_law_599 ?_
  refine lv_if_eq (tgt := 1005) hx hb dL_law_600 (by decide) (fun _ => ?_) (fun q => absurd ((lg_cmp_eq _ _).mpr rfl) q)
  refine lv_iinc (v := x3 + 6) (lv' := [(3, .int (x3 + 6)), (0, .ref b), (1, .ref (adC 0)), (2, .ref (adM 0))]) hx hb dL_law_1005 hl (k := 3) rfl rfl (by decide) rfl (fun ls hl => ?_)
  refine lv_goto (tgt := 18) hx hb dL_law_1008 (by decide) ?_
  exact ih (i + 6) (x3 + 6) h6 (by omega) (by rw [ex3]; exact lw_six6 i) _ _ hI' _ _ hPC hPM hS ls (lv_sub hl [1, 2, 3, 0] rfl)
set_option maxHeartbeats 4000000 in
set_option maxRecDepth 100000 in
theorem law_c12 {p : Program} {l : Launch} {e : Env} {s : State} {m : MethodId} {below : List Frame} {meth : Method} {c : Code} {D : va_G} {cA : Nat → ClassId} {adC adM : Nat → Nat} {hC hM : Nat} {b L : Nat} {xs : Nat → Int32} {I : Zs → Zs → Prop} (hsim : zSim I) (hL : L ≤ 3072) (C0 : lw_At p s m meth c b L xs) (F : lwF s hC hM adC adM)
    (CC : zCx p s m #[Value.ref b] meth c code 4 R_law ret D adC cA (fun q : Nat => s.heap.size ≤ q)) (CM : zCx p s m #[Value.ref b] meth c code 4 R_law ret D adM cA (fun q : Nat => s.heap.size ≤ q)) (DC : ∀ S, va_D (fun q : Nat => s.heap.size ≤ q) (zw zC adC cA S)) (DM : ∀ S, va_D (fun q : Nat => s.heap.size ≤ q) (zw zM adM cA S))
    {n i : Nat} {x3 : Int32} (hi : i ≤ L) (hin : L + 6 ≤ i + (n + 1)) (ex3 : x3 = nI i) (h6 : i + 6 ≤ L) {SC SM : Zs} (hI : I SC SM) {H : Heap} {locs : List Loc} (hPC : va_P D zcl (zw zC adC cA SC) H) (hPM : va_P D zcl (zw zM adM cA SM) H) (hS : va_S (fun q : Nat => s.heap.size ≤ q) s.heap H locs) {ls : Array Slot} (hl : lv_has ls 4 [(0, .ref b), (1, .ref (adC 0)), (2, .ref (adM 0)), (3, .int x3)])
    (ih : ∀ (i : Nat) (x3 : Int32), i ≤ L → L + 6 ≤ i + n → x3 = nI i → ∀ (SC SM : Zs), I SC SM → ∀ (H : Heap) (locs : List Loc), va_P D zcl (zw zC adC cA SC) H → va_P D zcl (zw zM adM cA SM) H → va_S (fun q : Nat => s.heap.size ≤ q) s.heap H locs → ∀ (ls : Array Slot), lv_has ls 4 [(0, .ref b), (1, .ref (adC 0)), (2, .ref (adM 0)), (3, .int x3)] → W p l e room_1 s m #[Value.ref b] below meth c H locs 200 3000 (lw_Z below #[Value.ref b] s) (F0 m 18 ls [])) :
    W p l e room_1 s m #[Value.ref b] below meth c H locs 200 3000 (lw_Z below #[Value.ref b] s) (F0 m 605 ls []) := by
  have hx := CC.1
  have hb := CC.2.1
  obtain ⟨-, -, hr, -, -, -, hX, hbl, hlocks, -⟩ := C0
  have hbA : ¬ (fun q : Nat => s.heap.size ≤ q) b := Nat.not_le.mpr hbl
  have hj0 : vp_in x3 L := by rw [ex3]; exact lw_in0 (by omega) hL
  have hj1 : vp_in (x3 + 1) L := by rw [ex3]; exact lw_in (k := 1) (by omega) hL
  have hj2 : vp_in (x3 + 2) L := by rw [ex3]; exact lw_in (k := 2) (by omega) hL
  have hj3 : vp_in (x3 + 3) L := by rw [ex3]; exact lw_in (k := 3) (by omega) hL
  have hj4 : vp_in (x3 + 4) L := by rw [ex3]; exact lw_in (k := 4) (by omega) hL
  have hj5 : vp_in (x3 + 5) L := by rw [ex3]; exact lw_in (k := 5) (by omega) hL
  obtain ⟨r, SC', SM', g6, g7, hI'⟩ := hsim.2.2.2.2.2.2.2.2.2.2.2.2.1 SC SM (xs (x3 + 1).toNatClampNeg) (xs (x3 + 2).toNatClampNeg) (xs (x3 + 3).toNatClampNeg) hI
  refine lv_aload_n hx hb dL_law_605 rfl (lv_at hl 1 rfl) ?_
  refine lv_aload_n hx hb dL_law_606 rfl (lv_at hl 0 rfl) ?_
  refine lv_iload_n hx hb dL_law_607 rfl (lv_at hl 3 rfl) ?_
  refine lv_iconst (v := 1) hx hb dL_law_608 (by decide) ?_
  refine lv_iadd hx hb dL_law_609 ?_
  refine va_sld hx hb hX hbl hbA hS hj1 dL_law_610 ?_
  refine lv_aload_n hx hb dL_law_611 rfl (lv_at hl 0 rfl) ?_
  refine lv_iload_n hx hb dL_law_612 rfl (lv_at hl 3 rfl) ?_
  refine lv_iconst (v := 2) hx hb dL_law_613 (by decide) ?_
  refine lv_iadd hx hb dL_law_614 ?_
  refine va_sld hx hb hX hbl hbA hS hj2 dL_law_615 ?_
  refine lv_aload_n hx hb dL_law_616 rfl (lv_at hl 0 rfl) ?_
  refine lv_iload_n hx hb dL_law_617 rfl (lv_at hl 3 rfl) ?_
  refine lv_iconst (v := 3) hx hb dL_law_618 (by decide) ?_
  refine lv_iadd hx hb dL_law_619 ?_
  refine va_sld hx hb hX hbl hbA hS hj3 dL_law_620 ?_
  refine lw_calll CC ⟨hPC, DC _, hS⟩ (As := [.int (xs (x3 + 1).toNatClampNeg), .int (xs (x3 + 2).toNatClampNeg), .int (xs (x3 + 3).toNatClampNeg)]) (m6_chain g6) wl6_chain (ci := 6) rfl zs0 rfl (by decide) hl.1 rfl (Nat.le_of_ble_eq_true rfl) dL_law_621 (by decide) (fun H1 locs1 hk hP1 => ?_)
  have hPM := lw_frC F hPM hk
  obtain ⟨hPC, -, hS⟩ := hP1
  refine lv_aload_n hx hb dL_law_624 rfl (lv_at hl 2 rfl) ?_
  refine lv_aload_n hx hb dL_law_625 rfl (lv_at hl 0 rfl) ?_
  refine lv_iload_n hx hb dL_law_626 rfl (lv_at hl 3 rfl) ?_
  refine lv_iconst (v := 1) hx hb dL_law_627 (by decide) ?_
  refine lv_iadd hx hb dL_law_628 ?_
  refine va_sld hx hb hX hbl hbA hS hj1 dL_law_629 ?_
  refine lv_aload_n hx hb dL_law_630 rfl (lv_at hl 0 rfl) ?_
  refine lv_iload_n hx hb dL_law_631 rfl (lv_at hl 3 rfl) ?_
  refine lv_iconst (v := 2) hx hb dL_law_632 (by decide) ?_
  refine lv_iadd hx hb dL_law_633 ?_
  refine va_sld hx hb hX hbl hbA hS hj2 dL_law_634 ?_
  refine lv_aload_n hx hb dL_law_635 rfl (lv_at hl 0 rfl) ?_
  refine lv_iload_n hx hb dL_law_636 rfl (lv_at hl 3 rfl) ?_
  refine lv_iconst (v := 3) hx hb dL_law_637 (by decide) ?_
  refine lv_iadd hx hb dL_law_638 ?_
  refine va_sld hx hb hX hbl hbA hS hj3 dL_law_639 ?_
  refine lw_calll CM ⟨hPM, DM _, hS⟩ (As := [.int (xs (x3 + 1).toNatClampNeg), .int (xs (x3 + 2).toNatClampNeg), .int (xs (x3 + 3).toNatClampNeg)]) (m7_chain g7) wl7_chain (ci := 7) rfl zm0 rfl (by decide) hl.1 rfl (Nat.le_of_ble_eq_true rfl) dL_law_640 (by decide) (fun H1 locs1 hk hP1 => ?_)
  have hPC := lw_frM F hPC hk
  obtain ⟨hPM, -, hS⟩ := hP1
  refine W.lcmp hx hb dL_law_643 ?_
  refine lv_if_eq (tgt := 1005) hx hb dL_law_644 (by decide) (fun _ => ?_) (fun q => absurd ((lg_cmp_eq _ _).mpr rfl) q)
  refine lv_iinc (v := x3 + 6) (lv' := [(3, .int (x3 + 6)), (0, .ref b), (1, .ref (adC 0)), (2, .ref (adM 0))]) hx hb dL_law_1005 hl (k := 3) rfl rfl (by decide) rfl (fun ls hl => ?_)
  refine lv_goto (tgt := 18) hx hb dL_law_1008 (by decide) ?_
  exact ih (i + 6) (x3 + 6) h6 (by omega) (by rw [ex3]; exact lw_six6 i) _ _ hI' _ _ hPC hPM hS ls (lv_sub hl [1, 2, 3, 0] rfl)
set_option maxHeartbeats 4000000 in
set_option maxRecDepth 100000 in
theorem law_c13 {p : Program} {l : Launch} {e : Env} {s : State} {m : MethodId} {below : List Frame} {meth : Method} {c : Code} {D : va_G} {cA : Nat → ClassId} {adC adM : Nat → Nat} {hC hM : Nat} {b L : Nat} {xs : Nat → Int32} {I : Zs → Zs → Prop} (hsim : zSim I) (hL : L ≤ 3072) (C0 : lw_At p s m meth c b L xs) (F : lwF s hC hM adC adM)
    (CC : zCx p s m #[Value.ref b] meth c code 4 R_law ret D adC cA (fun q : Nat => s.heap.size ≤ q)) (CM : zCx p s m #[Value.ref b] meth c code 4 R_law ret D adM cA (fun q : Nat => s.heap.size ≤ q)) (DC : ∀ S, va_D (fun q : Nat => s.heap.size ≤ q) (zw zC adC cA S)) (DM : ∀ S, va_D (fun q : Nat => s.heap.size ≤ q) (zw zM adM cA S))
    {n i : Nat} {x3 : Int32} (hi : i ≤ L) (hin : L + 6 ≤ i + (n + 1)) (ex3 : x3 = nI i) (h6 : i + 6 ≤ L) {SC SM : Zs} (hI : I SC SM) {H : Heap} {locs : List Loc} (hPC : va_P D zcl (zw zC adC cA SC) H) (hPM : va_P D zcl (zw zM adM cA SM) H) (hS : va_S (fun q : Nat => s.heap.size ≤ q) s.heap H locs) {ls : Array Slot} (hl : lv_has ls 4 [(0, .ref b), (1, .ref (adC 0)), (2, .ref (adM 0)), (3, .int x3)])
    (ih : ∀ (i : Nat) (x3 : Int32), i ≤ L → L + 6 ≤ i + n → x3 = nI i → ∀ (SC SM : Zs), I SC SM → ∀ (H : Heap) (locs : List Loc), va_P D zcl (zw zC adC cA SC) H → va_P D zcl (zw zM adM cA SM) H → va_S (fun q : Nat => s.heap.size ≤ q) s.heap H locs → ∀ (ls : Array Slot), lv_has ls 4 [(0, .ref b), (1, .ref (adC 0)), (2, .ref (adM 0)), (3, .int x3)] → W p l e room_1 s m #[Value.ref b] below meth c H locs 200 3000 (lw_Z below #[Value.ref b] s) (F0 m 18 ls [])) :
    W p l e room_1 s m #[Value.ref b] below meth c H locs 200 3000 (lw_Z below #[Value.ref b] s) (F0 m 649 ls []) := by
  have hx := CC.1
  have hb := CC.2.1
  obtain ⟨-, -, hr, -, -, -, hX, hbl, hlocks, -⟩ := C0
  have hbA : ¬ (fun q : Nat => s.heap.size ≤ q) b := Nat.not_le.mpr hbl
  have hj0 : vp_in x3 L := by rw [ex3]; exact lw_in0 (by omega) hL
  have hj1 : vp_in (x3 + 1) L := by rw [ex3]; exact lw_in (k := 1) (by omega) hL
  have hj2 : vp_in (x3 + 2) L := by rw [ex3]; exact lw_in (k := 2) (by omega) hL
  have hj3 : vp_in (x3 + 3) L := by rw [ex3]; exact lw_in (k := 3) (by omega) hL
  have hj4 : vp_in (x3 + 4) L := by rw [ex3]; exact lw_in (k := 4) (by omega) hL
  have hj5 : vp_in (x3 + 5) L := by rw [ex3]; exact lw_in (k := 5) (by omega) hL
  obtain ⟨r, SC', SM', g6, g7, hI'⟩ := hsim.2.2.2.2.2.2.2.2.2.2.2.2.2.1 SC SM (xs (x3 + 1).toNatClampNeg) (xs (x3 + 2).toNatClampNeg) hI
  refine lv_aload_n hx hb dL_law_649 rfl (lv_at hl 1 rfl) ?_
  refine lv_aload_n hx hb dL_law_650 rfl (lv_at hl 0 rfl) ?_
  refine lv_iload_n hx hb dL_law_651 rfl (lv_at hl 3 rfl) ?_
  refine lv_iconst (v := 1) hx hb dL_law_652 (by decide) ?_
  refine lv_iadd hx hb dL_law_653 ?_
  refine va_sld hx hb hX hbl hbA hS hj1 dL_law_654 ?_
  refine lv_aload_n hx hb dL_law_655 rfl (lv_at hl 0 rfl) ?_
  refine lv_iload_n hx hb dL_law_656 rfl (lv_at hl 3 rfl) ?_
  refine lv_iconst (v := 2) hx hb dL_law_657 (by decide) ?_
  refine lv_iadd hx hb dL_law_658 ?_
  refine va_sld hx hb hX hbl hbA hS hj2 dL_law_659 ?_
  refine lw_calll CC ⟨hPC, DC _, hS⟩ (As := [.int (xs (x3 + 1).toNatClampNeg), .int (xs (x3 + 2).toNatClampNeg)]) (m6_more g6) wl6_more (ci := 6) rfl zs0 rfl (by decide) hl.1 rfl (Nat.le_of_ble_eq_true rfl) dL_law_660 (by decide) (fun H1 locs1 hk hP1 => ?_)
  have hPM := lw_frC F hPM hk
  obtain ⟨hPC, -, hS⟩ := hP1
  refine lv_aload_n hx hb dL_law_663 rfl (lv_at hl 2 rfl) ?_
  refine lv_aload_n hx hb dL_law_664 rfl (lv_at hl 0 rfl) ?_
  refine lv_iload_n hx hb dL_law_665 rfl (lv_at hl 3 rfl) ?_
  refine lv_iconst (v := 1) hx hb dL_law_666 (by decide) ?_
  refine lv_iadd hx hb dL_law_667 ?_
  refine va_sld hx hb hX hbl hbA hS hj1 dL_law_668 ?_
  refine lv_aload_n hx hb dL_law_669 rfl (lv_at hl 0 rfl) ?_
  refine lv_iload_n hx hb dL_law_670 rfl (lv_at hl 3 rfl) ?_
  refine lv_iconst (v := 2) hx hb dL_law_671 (by decide) ?_
  refine lv_iadd hx hb dL_law_672 ?_
  refine va_sld hx hb hX hbl hbA hS hj2 dL_law_673 ?_
  refine lw_calll CM ⟨hPM, DM _, hS⟩ (As := [.int (xs (x3 + 1).toNatClampNeg), .int (xs (x3 + 2).toNatClampNeg)]) (m7_more g7) wl7_more (ci := 7) rfl zm0 rfl (by decide) hl.1 rfl (Nat.le_of_ble_eq_true rfl) dL_law_674 (by decide) (fun H1 locs1 hk hP1 => ?_)
  have hPC := lw_frM F hPC hk
  obtain ⟨hPM, -, hS⟩ := hP1
  refine W.lcmp hx hb dL_law_677 ?_
  refine lv_if_eq (tgt := 1005) hx hb dL_law_678 (by decide) (fun _ => ?_) (fun q => absurd ((lg_cmp_eq _ _).mpr rfl) q)
  refine lv_iinc (v := x3 + 6) (lv' := [(3, .int (x3 + 6)), (0, .ref b), (1, .ref (adC 0)), (2, .ref (adM 0))]) hx hb dL_law_1005 hl (k := 3) rfl rfl (by decide) rfl (fun ls hl => ?_)
  refine lv_goto (tgt := 18) hx hb dL_law_1008 (by decide) ?_
  exact ih (i + 6) (x3 + 6) h6 (by omega) (by rw [ex3]; exact lw_six6 i) _ _ hI' _ _ hPC hPM hS ls (lv_sub hl [1, 2, 3, 0] rfl)
set_option maxHeartbeats 4000000 in
set_option maxRecDepth 100000 in
theorem law_c14 {p : Program} {l : Launch} {e : Env} {s : State} {m : MethodId} {below : List Frame} {meth : Method} {c : Code} {D : va_G} {cA : Nat → ClassId} {adC adM : Nat → Nat} {hC hM : Nat} {b L : Nat} {xs : Nat → Int32} {I : Zs → Zs → Prop} (hsim : zSim I) (hL : L ≤ 3072) (C0 : lw_At p s m meth c b L xs) (F : lwF s hC hM adC adM)
    (CC : zCx p s m #[Value.ref b] meth c code 4 R_law ret D adC cA (fun q : Nat => s.heap.size ≤ q)) (CM : zCx p s m #[Value.ref b] meth c code 4 R_law ret D adM cA (fun q : Nat => s.heap.size ≤ q)) (DC : ∀ S, va_D (fun q : Nat => s.heap.size ≤ q) (zw zC adC cA S)) (DM : ∀ S, va_D (fun q : Nat => s.heap.size ≤ q) (zw zM adM cA S))
    {n i : Nat} {x3 : Int32} (hi : i ≤ L) (hin : L + 6 ≤ i + (n + 1)) (ex3 : x3 = nI i) (h6 : i + 6 ≤ L) {SC SM : Zs} (hI : I SC SM) {H : Heap} {locs : List Loc} (hPC : va_P D zcl (zw zC adC cA SC) H) (hPM : va_P D zcl (zw zM adM cA SM) H) (hS : va_S (fun q : Nat => s.heap.size ≤ q) s.heap H locs) {ls : Array Slot} (hl : lv_has ls 4 [(0, .ref b), (1, .ref (adC 0)), (2, .ref (adM 0)), (3, .int x3)])
    (ih : ∀ (i : Nat) (x3 : Int32), i ≤ L → L + 6 ≤ i + n → x3 = nI i → ∀ (SC SM : Zs), I SC SM → ∀ (H : Heap) (locs : List Loc), va_P D zcl (zw zC adC cA SC) H → va_P D zcl (zw zM adM cA SM) H → va_S (fun q : Nat => s.heap.size ≤ q) s.heap H locs → ∀ (ls : Array Slot), lv_has ls 4 [(0, .ref b), (1, .ref (adC 0)), (2, .ref (adM 0)), (3, .int x3)] → W p l e room_1 s m #[Value.ref b] below meth c H locs 200 3000 (lw_Z below #[Value.ref b] s) (F0 m 18 ls [])) :
    W p l e room_1 s m #[Value.ref b] below meth c H locs 200 3000 (lw_Z below #[Value.ref b] s) (F0 m 683 ls []) := by
  have hx := CC.1
  have hb := CC.2.1
  obtain ⟨-, -, hr, -, -, -, hX, hbl, hlocks, -⟩ := C0
  have hbA : ¬ (fun q : Nat => s.heap.size ≤ q) b := Nat.not_le.mpr hbl
  have hj0 : vp_in x3 L := by rw [ex3]; exact lw_in0 (by omega) hL
  have hj1 : vp_in (x3 + 1) L := by rw [ex3]; exact lw_in (k := 1) (by omega) hL
  have hj2 : vp_in (x3 + 2) L := by rw [ex3]; exact lw_in (k := 2) (by omega) hL
  have hj3 : vp_in (x3 + 3) L := by rw [ex3]; exact lw_in (k := 3) (by omega) hL
  have hj4 : vp_in (x3 + 4) L := by rw [ex3]; exact lw_in (k := 4) (by omega) hL
  have hj5 : vp_in (x3 + 5) L := by rw [ex3]; exact lw_in (k := 5) (by omega) hL
  obtain ⟨r, SC', SM', ⟨g6, e6⟩, g7, hI'⟩ := hsim.2.2.2.2.2.2.2.2.2.2.2.2.2.2.1 SC SM (xs (x3 + 1).toNatClampNeg) (xs (x3 + 2).toNatClampNeg) (xs (x3 + 3).toNatClampNeg) hI
  rw [e6] at hI'
  refine lv_aload_n hx hb dL_law_683 rfl (lv_at hl 1 rfl) ?_
  refine lv_aload_n hx hb dL_law_684 rfl (lv_at hl 0 rfl) ?_
  refine lv_iload_n hx hb dL_law_685 rfl (lv_at hl 3 rfl) ?_
  refine lv_iconst (v := 1) hx hb dL_law_686 (by decide) ?_
  refine lv_iadd hx hb dL_law_687 ?_
  refine va_sld hx hb hX hbl hbA hS hj1 dL_law_688 ?_
  refine lv_aload_n hx hb dL_law_689 rfl (lv_at hl 0 rfl) ?_
  refine lv_iload_n hx hb dL_law_690 rfl (lv_at hl 3 rfl) ?_
  refine lv_iconst (v := 2) hx hb dL_law_691 (by decide) ?_
  refine lv_iadd hx hb dL_law_692 ?_
  refine va_sld hx hb hX hbl hbA hS hj2 dL_law_693 ?_
  refine lv_aload_n hx hb dL_law_694 rfl (lv_at hl 0 rfl) ?_
  refine lv_iload_n hx hb dL_law_695 rfl (lv_at hl 3 rfl) ?_
  refine lv_iconst (v := 3) hx hb dL_law_696 (by decide) ?_
  refine lv_iadd hx hb dL_law_697 ?_
  refine va_sld hx hb hX hbl hbA hS hj3 dL_law_698 ?_
  refine lw_calll CC ⟨hPC, DC _, hS⟩ (As := [.int (xs (x3 + 1).toNatClampNeg), .int (xs (x3 + 2).toNatClampNeg), .int (xs (x3 + 3).toNatClampNeg)]) (m6_stays g6) wl6_stays (ci := 6) rfl zs0 rfl (by decide) hl.1 rfl (Nat.le_of_ble_eq_true rfl) dL_law_699 (by decide) (fun H1 locs1 hk hP1 => ?_)
  have hPM := lw_frC F hPM hk
  obtain ⟨hPC, -, hS⟩ := hP1
  refine lv_aload_n hx hb dL_law_702 rfl (lv_at hl 2 rfl) ?_
  refine lv_aload_n hx hb dL_law_703 rfl (lv_at hl 0 rfl) ?_
  refine lv_iload_n hx hb dL_law_704 rfl (lv_at hl 3 rfl) ?_
  refine lv_iconst (v := 1) hx hb dL_law_705 (by decide) ?_
  refine lv_iadd hx hb dL_law_706 ?_
  refine va_sld hx hb hX hbl hbA hS hj1 dL_law_707 ?_
  refine lv_aload_n hx hb dL_law_708 rfl (lv_at hl 0 rfl) ?_
  refine lv_iload_n hx hb dL_law_709 rfl (lv_at hl 3 rfl) ?_
  refine lv_iconst (v := 2) hx hb dL_law_710 (by decide) ?_
  refine lv_iadd hx hb dL_law_711 ?_
  refine va_sld hx hb hX hbl hbA hS hj2 dL_law_712 ?_
  refine lv_aload_n hx hb dL_law_713 rfl (lv_at hl 0 rfl) ?_
  refine lv_iload_n hx hb dL_law_714 rfl (lv_at hl 3 rfl) ?_
  refine lv_iconst (v := 3) hx hb dL_law_715 (by decide) ?_
  refine lv_iadd hx hb dL_law_716 ?_
  refine va_sld hx hb hX hbl hbA hS hj3 dL_law_717 ?_
  refine lw_calll CM ⟨hPM, DM _, hS⟩ (As := [.int (xs (x3 + 1).toNatClampNeg), .int (xs (x3 + 2).toNatClampNeg), .int (xs (x3 + 3).toNatClampNeg)]) (m7_stays g7) wl7_stays (ci := 7) rfl zm0 rfl (by decide) hl.1 rfl (Nat.le_of_ble_eq_true rfl) dL_law_718 (by decide) (fun H1 locs1 hk hP1 => ?_)
  have hPC := lw_frM F hPC hk
  obtain ⟨hPM, -, hS⟩ := hP1
  refine W.lcmp hx hb dL_law_721 ?_
  refine lv_if_eq (tgt := 1005) hx hb dL_law_722 (by decide) (fun _ => ?_) (fun q => absurd ((lg_cmp_eq _ _).mpr rfl) q)
  refine lv_iinc (v := x3 + 6) (lv' := [(3, .int (x3 + 6)), (0, .ref b), (1, .ref (adC 0)), (2, .ref (adM 0))]) hx hb dL_law_1005 hl (k := 3) rfl rfl (by decide) rfl (fun ls hl => ?_)
  refine lv_goto (tgt := 18) hx hb dL_law_1008 (by decide) ?_
  exact ih (i + 6) (x3 + 6) h6 (by omega) (by rw [ex3]; exact lw_six6 i) _ _ hI' _ _ hPC hPM hS ls (lv_sub hl [1, 2, 3, 0] rfl)
set_option maxHeartbeats 4000000 in
set_option maxRecDepth 100000 in
theorem law_c15 {p : Program} {l : Launch} {e : Env} {s : State} {m : MethodId} {below : List Frame} {meth : Method} {c : Code} {D : va_G} {cA : Nat → ClassId} {adC adM : Nat → Nat} {hC hM : Nat} {b L : Nat} {xs : Nat → Int32} {I : Zs → Zs → Prop} (hsim : zSim I) (hL : L ≤ 3072) (C0 : lw_At p s m meth c b L xs) (F : lwF s hC hM adC adM)
    (CC : zCx p s m #[Value.ref b] meth c code 4 R_law ret D adC cA (fun q : Nat => s.heap.size ≤ q)) (CM : zCx p s m #[Value.ref b] meth c code 4 R_law ret D adM cA (fun q : Nat => s.heap.size ≤ q)) (DC : ∀ S, va_D (fun q : Nat => s.heap.size ≤ q) (zw zC adC cA S)) (DM : ∀ S, va_D (fun q : Nat => s.heap.size ≤ q) (zw zM adM cA S))
    {n i : Nat} {x3 : Int32} (hi : i ≤ L) (hin : L + 6 ≤ i + (n + 1)) (ex3 : x3 = nI i) (h6 : i + 6 ≤ L) {SC SM : Zs} (hI : I SC SM) {H : Heap} {locs : List Loc} (hPC : va_P D zcl (zw zC adC cA SC) H) (hPM : va_P D zcl (zw zM adM cA SM) H) (hS : va_S (fun q : Nat => s.heap.size ≤ q) s.heap H locs) {ls : Array Slot} (hl : lv_has ls 4 [(0, .ref b), (1, .ref (adC 0)), (2, .ref (adM 0)), (3, .int x3)])
    (ih : ∀ (i : Nat) (x3 : Int32), i ≤ L → L + 6 ≤ i + n → x3 = nI i → ∀ (SC SM : Zs), I SC SM → ∀ (H : Heap) (locs : List Loc), va_P D zcl (zw zC adC cA SC) H → va_P D zcl (zw zM adM cA SM) H → va_S (fun q : Nat => s.heap.size ≤ q) s.heap H locs → ∀ (ls : Array Slot), lv_has ls 4 [(0, .ref b), (1, .ref (adC 0)), (2, .ref (adM 0)), (3, .int x3)] → W p l e room_1 s m #[Value.ref b] below meth c H locs 200 3000 (lw_Z below #[Value.ref b] s) (F0 m 18 ls [])) :
    W p l e room_1 s m #[Value.ref b] below meth c H locs 200 3000 (lw_Z below #[Value.ref b] s) (F0 m 727 ls []) := by
  have hx := CC.1
  have hb := CC.2.1
  obtain ⟨-, -, hr, -, -, -, hX, hbl, hlocks, -⟩ := C0
  have hbA : ¬ (fun q : Nat => s.heap.size ≤ q) b := Nat.not_le.mpr hbl
  have hj0 : vp_in x3 L := by rw [ex3]; exact lw_in0 (by omega) hL
  have hj1 : vp_in (x3 + 1) L := by rw [ex3]; exact lw_in (k := 1) (by omega) hL
  have hj2 : vp_in (x3 + 2) L := by rw [ex3]; exact lw_in (k := 2) (by omega) hL
  have hj3 : vp_in (x3 + 3) L := by rw [ex3]; exact lw_in (k := 3) (by omega) hL
  have hj4 : vp_in (x3 + 4) L := by rw [ex3]; exact lw_in (k := 4) (by omega) hL
  have hj5 : vp_in (x3 + 5) L := by rw [ex3]; exact lw_in (k := 5) (by omega) hL
  obtain ⟨r, SC', SM', g6, g7, hI'⟩ := hsim.2.2.2.2.2.2.2.2.2.2.2.2.2.2.2.1 SC SM (xs (x3 + 1).toNatClampNeg) (xs (x3 + 2).toNatClampNeg) (xs (x3 + 3).toNatClampNeg) hI
  refine lv_aload_n hx hb dL_law_727 rfl (lv_at hl 1 rfl) ?_
  refine lv_aload_n hx hb dL_law_728 rfl (lv_at hl 0 rfl) ?_
  refine lv_iload_n hx hb dL_law_729 rfl (lv_at hl 3 rfl) ?_
  refine lv_iconst (v := 1) hx hb dL_law_730 (by decide) ?_
  refine lv_iadd hx hb dL_law_731 ?_
  refine va_sld hx hb hX hbl hbA hS hj1 dL_law_732 ?_
  refine lv_aload_n hx hb dL_law_733 rfl (lv_at hl 0 rfl) ?_
  refine lv_iload_n hx hb dL_law_734 rfl (lv_at hl 3 rfl) ?_
  refine lv_iconst (v := 2) hx hb dL_law_735 (by decide) ?_
  refine lv_iadd hx hb dL_law_736 ?_
  refine va_sld hx hb hX hbl hbA hS hj2 dL_law_737 ?_
  refine lv_aload_n hx hb dL_law_738 rfl (lv_at hl 0 rfl) ?_
  refine lv_iload_n hx hb dL_law_739 rfl (lv_at hl 3 rfl) ?_
  refine lv_iconst (v := 3) hx hb dL_law_740 (by decide) ?_
  refine lv_iadd hx hb dL_law_741 ?_
  refine va_sld hx hb hX hbl hbA hS hj3 dL_law_742 ?_
  refine lw_calll CC ⟨hPC, DC _, hS⟩ (As := [.int (xs (x3 + 1).toNatClampNeg), .int (xs (x3 + 2).toNatClampNeg), .int (xs (x3 + 3).toNatClampNeg)]) (m6_learn g6) wl6_learn (ci := 6) rfl zs0 rfl (by decide) hl.1 rfl (Nat.le_of_ble_eq_true rfl) dL_law_743 (by decide) (fun H1 locs1 hk hP1 => ?_)
  have hPM := lw_frC F hPM hk
  obtain ⟨hPC, -, hS⟩ := hP1
  refine lv_aload_n hx hb dL_law_746 rfl (lv_at hl 2 rfl) ?_
  refine lv_aload_n hx hb dL_law_747 rfl (lv_at hl 0 rfl) ?_
  refine lv_iload_n hx hb dL_law_748 rfl (lv_at hl 3 rfl) ?_
  refine lv_iconst (v := 1) hx hb dL_law_749 (by decide) ?_
  refine lv_iadd hx hb dL_law_750 ?_
  refine va_sld hx hb hX hbl hbA hS hj1 dL_law_751 ?_
  refine lv_aload_n hx hb dL_law_752 rfl (lv_at hl 0 rfl) ?_
  refine lv_iload_n hx hb dL_law_753 rfl (lv_at hl 3 rfl) ?_
  refine lv_iconst (v := 2) hx hb dL_law_754 (by decide) ?_
  refine lv_iadd hx hb dL_law_755 ?_
  refine va_sld hx hb hX hbl hbA hS hj2 dL_law_756 ?_
  refine lv_aload_n hx hb dL_law_757 rfl (lv_at hl 0 rfl) ?_
  refine lv_iload_n hx hb dL_law_758 rfl (lv_at hl 3 rfl) ?_
  refine lv_iconst (v := 3) hx hb dL_law_759 (by decide) ?_
  refine lv_iadd hx hb dL_law_760 ?_
  refine va_sld hx hb hX hbl hbA hS hj3 dL_law_761 ?_
  refine lw_calll CM ⟨hPM, DM _, hS⟩ (As := [.int (xs (x3 + 1).toNatClampNeg), .int (xs (x3 + 2).toNatClampNeg), .int (xs (x3 + 3).toNatClampNeg)]) (m7_learn g7) wl7_learn (ci := 7) rfl zm0 rfl (by decide) hl.1 rfl (Nat.le_of_ble_eq_true rfl) dL_law_762 (by decide) (fun H1 locs1 hk hP1 => ?_)
  have hPC := lw_frM F hPC hk
  obtain ⟨hPM, -, hS⟩ := hP1
  refine W.lcmp hx hb dL_law_765 ?_
  refine lv_if_eq (tgt := 1005) hx hb dL_law_766 (by decide) (fun _ => ?_) (fun q => absurd ((lg_cmp_eq _ _).mpr rfl) q)
  refine lv_iinc (v := x3 + 6) (lv' := [(3, .int (x3 + 6)), (0, .ref b), (1, .ref (adC 0)), (2, .ref (adM 0))]) hx hb dL_law_1005 hl (k := 3) rfl rfl (by decide) rfl (fun ls hl => ?_)
  refine lv_goto (tgt := 18) hx hb dL_law_1008 (by decide) ?_
  exact ih (i + 6) (x3 + 6) h6 (by omega) (by rw [ex3]; exact lw_six6 i) _ _ hI' _ _ hPC hPM hS ls (lv_sub hl [1, 2, 3, 0] rfl)
set_option maxHeartbeats 4000000 in
set_option maxRecDepth 100000 in
theorem law_c16 {p : Program} {l : Launch} {e : Env} {s : State} {m : MethodId} {below : List Frame} {meth : Method} {c : Code} {D : va_G} {cA : Nat → ClassId} {adC adM : Nat → Nat} {hC hM : Nat} {b L : Nat} {xs : Nat → Int32} {I : Zs → Zs → Prop} (hsim : zSim I) (hL : L ≤ 3072) (C0 : lw_At p s m meth c b L xs) (F : lwF s hC hM adC adM)
    (CC : zCx p s m #[Value.ref b] meth c code 4 R_law ret D adC cA (fun q : Nat => s.heap.size ≤ q)) (CM : zCx p s m #[Value.ref b] meth c code 4 R_law ret D adM cA (fun q : Nat => s.heap.size ≤ q)) (DC : ∀ S, va_D (fun q : Nat => s.heap.size ≤ q) (zw zC adC cA S)) (DM : ∀ S, va_D (fun q : Nat => s.heap.size ≤ q) (zw zM adM cA S))
    {n i : Nat} {x3 : Int32} (hi : i ≤ L) (hin : L + 6 ≤ i + (n + 1)) (ex3 : x3 = nI i) (h6 : i + 6 ≤ L) {SC SM : Zs} (hI : I SC SM) {H : Heap} {locs : List Loc} (hPC : va_P D zcl (zw zC adC cA SC) H) (hPM : va_P D zcl (zw zM adM cA SM) H) (hS : va_S (fun q : Nat => s.heap.size ≤ q) s.heap H locs) {ls : Array Slot} (hl : lv_has ls 4 [(0, .ref b), (1, .ref (adC 0)), (2, .ref (adM 0)), (3, .int x3)])
    (ih : ∀ (i : Nat) (x3 : Int32), i ≤ L → L + 6 ≤ i + n → x3 = nI i → ∀ (SC SM : Zs), I SC SM → ∀ (H : Heap) (locs : List Loc), va_P D zcl (zw zC adC cA SC) H → va_P D zcl (zw zM adM cA SM) H → va_S (fun q : Nat => s.heap.size ≤ q) s.heap H locs → ∀ (ls : Array Slot), lv_has ls 4 [(0, .ref b), (1, .ref (adC 0)), (2, .ref (adM 0)), (3, .int x3)] → W p l e room_1 s m #[Value.ref b] below meth c H locs 200 3000 (lw_Z below #[Value.ref b] s) (F0 m 18 ls [])) :
    W p l e room_1 s m #[Value.ref b] below meth c H locs 200 3000 (lw_Z below #[Value.ref b] s) (F0 m 771 ls []) := by
  have hx := CC.1
  have hb := CC.2.1
  obtain ⟨-, -, hr, -, -, -, hX, hbl, hlocks, -⟩ := C0
  have hbA : ¬ (fun q : Nat => s.heap.size ≤ q) b := Nat.not_le.mpr hbl
  have hj0 : vp_in x3 L := by rw [ex3]; exact lw_in0 (by omega) hL
  have hj1 : vp_in (x3 + 1) L := by rw [ex3]; exact lw_in (k := 1) (by omega) hL
  have hj2 : vp_in (x3 + 2) L := by rw [ex3]; exact lw_in (k := 2) (by omega) hL
  have hj3 : vp_in (x3 + 3) L := by rw [ex3]; exact lw_in (k := 3) (by omega) hL
  have hj4 : vp_in (x3 + 4) L := by rw [ex3]; exact lw_in (k := 4) (by omega) hL
  have hj5 : vp_in (x3 + 5) L := by rw [ex3]; exact lw_in (k := 5) (by omega) hL
  obtain ⟨r, SC', SM', ⟨g6, e6⟩, g7, hI'⟩ := hsim.2.2.2.2.2.2.2.2.2.2.2.2.2.2.2.2.1 SC SM (xs (x3 + 1).toNatClampNeg) hI
  rw [e6] at hI'
  refine lv_aload_n hx hb dL_law_771 rfl (lv_at hl 1 rfl) ?_
  refine lv_aload_n hx hb dL_law_772 rfl (lv_at hl 0 rfl) ?_
  refine lv_iload_n hx hb dL_law_773 rfl (lv_at hl 3 rfl) ?_
  refine lv_iconst (v := 1) hx hb dL_law_774 (by decide) ?_
  refine lv_iadd hx hb dL_law_775 ?_
  refine va_sld hx hb hX hbl hbA hS hj1 dL_law_776 ?_
  refine lw_calll CC ⟨hPC, DC _, hS⟩ (As := [.int (xs (x3 + 1).toNatClampNeg)]) (m6_on g6) wl6_on (ci := 6) rfl zs0 rfl (by decide) hl.1 rfl (Nat.le_of_ble_eq_true rfl) dL_law_777 (by decide) (fun H1 locs1 hk hP1 => ?_)
  have hPM := lw_frC F hPM hk
  obtain ⟨hPC, -, hS⟩ := hP1
  refine lv_aload_n hx hb dL_law_780 rfl (lv_at hl 2 rfl) ?_
  refine lv_aload_n hx hb dL_law_781 rfl (lv_at hl 0 rfl) ?_
  refine lv_iload_n hx hb dL_law_782 rfl (lv_at hl 3 rfl) ?_
  refine lv_iconst (v := 1) hx hb dL_law_783 (by decide) ?_
  refine lv_iadd hx hb dL_law_784 ?_
  refine va_sld hx hb hX hbl hbA hS hj1 dL_law_785 ?_
  refine lw_calll CM ⟨hPM, DM _, hS⟩ (As := [.int (xs (x3 + 1).toNatClampNeg)]) (m7_on g7) wl7_on (ci := 7) rfl zm0 rfl (by decide) hl.1 rfl (Nat.le_of_ble_eq_true rfl) dL_law_786 (by decide) (fun H1 locs1 hk hP1 => ?_)
  have hPC := lw_frM F hPC hk
  obtain ⟨hPM, -, hS⟩ := hP1
  refine W.lcmp hx hb dL_law_789 ?_
  refine lv_if_eq (tgt := 1005) hx hb dL_law_790 (by decide) (fun _ => ?_) (fun q => absurd ((lg_cmp_eq _ _).mpr rfl) q)
  refine lv_iinc (v := x3 + 6) (lv' := [(3, .int (x3 + 6)), (0, .ref b), (1, .ref (adC 0)), (2, .ref (adM 0))]) hx hb dL_law_1005 hl (k := 3) rfl rfl (by decide) rfl (fun ls hl => ?_)
  refine lv_goto (tgt := 18) hx hb dL_law_1008 (by decide) ?_
  exact ih (i + 6) (x3 + 6) h6 (by omega) (by rw [ex3]; exact lw_six6 i) _ _ hI' _ _ hPC hPM hS ls (lv_sub hl [1, 2, 3, 0] rfl)
set_option maxHeartbeats 4000000 in
set_option maxRecDepth 100000 in
theorem law_c17 {p : Program} {l : Launch} {e : Env} {s : State} {m : MethodId} {below : List Frame} {meth : Method} {c : Code} {D : va_G} {cA : Nat → ClassId} {adC adM : Nat → Nat} {hC hM : Nat} {b L : Nat} {xs : Nat → Int32} {I : Zs → Zs → Prop} (hsim : zSim I) (hL : L ≤ 3072) (C0 : lw_At p s m meth c b L xs) (F : lwF s hC hM adC adM)
    (CC : zCx p s m #[Value.ref b] meth c code 4 R_law ret D adC cA (fun q : Nat => s.heap.size ≤ q)) (CM : zCx p s m #[Value.ref b] meth c code 4 R_law ret D adM cA (fun q : Nat => s.heap.size ≤ q)) (DC : ∀ S, va_D (fun q : Nat => s.heap.size ≤ q) (zw zC adC cA S)) (DM : ∀ S, va_D (fun q : Nat => s.heap.size ≤ q) (zw zM adM cA S))
    {n i : Nat} {x3 : Int32} (hi : i ≤ L) (hin : L + 6 ≤ i + (n + 1)) (ex3 : x3 = nI i) (h6 : i + 6 ≤ L) {SC SM : Zs} (hI : I SC SM) {H : Heap} {locs : List Loc} (hPC : va_P D zcl (zw zC adC cA SC) H) (hPM : va_P D zcl (zw zM adM cA SM) H) (hS : va_S (fun q : Nat => s.heap.size ≤ q) s.heap H locs) {ls : Array Slot} (hl : lv_has ls 4 [(0, .ref b), (1, .ref (adC 0)), (2, .ref (adM 0)), (3, .int x3)])
    (ih : ∀ (i : Nat) (x3 : Int32), i ≤ L → L + 6 ≤ i + n → x3 = nI i → ∀ (SC SM : Zs), I SC SM → ∀ (H : Heap) (locs : List Loc), va_P D zcl (zw zC adC cA SC) H → va_P D zcl (zw zM adM cA SM) H → va_S (fun q : Nat => s.heap.size ≤ q) s.heap H locs → ∀ (ls : Array Slot), lv_has ls 4 [(0, .ref b), (1, .ref (adC 0)), (2, .ref (adM 0)), (3, .int x3)] → W p l e room_1 s m #[Value.ref b] below meth c H locs 200 3000 (lw_Z below #[Value.ref b] s) (F0 m 18 ls [])) :
    W p l e room_1 s m #[Value.ref b] below meth c H locs 200 3000 (lw_Z below #[Value.ref b] s) (F0 m 795 ls []) := by
  have hx := CC.1
  have hb := CC.2.1
  obtain ⟨-, -, hr, -, -, -, hX, hbl, hlocks, -⟩ := C0
  have hbA : ¬ (fun q : Nat => s.heap.size ≤ q) b := Nat.not_le.mpr hbl
  have hj0 : vp_in x3 L := by rw [ex3]; exact lw_in0 (by omega) hL
  have hj1 : vp_in (x3 + 1) L := by rw [ex3]; exact lw_in (k := 1) (by omega) hL
  have hj2 : vp_in (x3 + 2) L := by rw [ex3]; exact lw_in (k := 2) (by omega) hL
  have hj3 : vp_in (x3 + 3) L := by rw [ex3]; exact lw_in (k := 3) (by omega) hL
  have hj4 : vp_in (x3 + 4) L := by rw [ex3]; exact lw_in (k := 4) (by omega) hL
  have hj5 : vp_in (x3 + 5) L := by rw [ex3]; exact lw_in (k := 5) (by omega) hL
  obtain ⟨r, SC', SM', g6, g7, hI'⟩ := hsim.2.2.2.2.2.2.2.2.2.2.2.2.2.2.2.2.2.1 SC SM (xs (x3 + 1).toNatClampNeg) (xs (x3 + 2).toNatClampNeg) hI
  refine lv_aload_n hx hb dL_law_795 rfl (lv_at hl 1 rfl) ?_
  refine lv_aload_n hx hb dL_law_796 rfl (lv_at hl 0 rfl) ?_
  refine lv_iload_n hx hb dL_law_797 rfl (lv_at hl 3 rfl) ?_
  refine lv_iconst (v := 1) hx hb dL_law_798 (by decide) ?_
  refine lv_iadd hx hb dL_law_799 ?_
  refine va_sld hx hb hX hbl hbA hS hj1 dL_law_800 ?_
  refine lv_aload_n hx hb dL_law_801 rfl (lv_at hl 0 rfl) ?_
  refine lv_iload_n hx hb dL_law_802 rfl (lv_at hl 3 rfl) ?_
  refine lv_iconst (v := 2) hx hb dL_law_803 (by decide) ?_
  refine lv_iadd hx hb dL_law_804 ?_
  refine va_sld hx hb hX hbl hbA hS hj2 dL_law_805 ?_
  refine lw_calll CC ⟨hPC, DC _, hS⟩ (As := [.int (xs (x3 + 1).toNatClampNeg), .int (xs (x3 + 2).toNatClampNeg)]) (m6_edge g6) wl6_edge (ci := 6) rfl zs0 rfl (by decide) hl.1 rfl (Nat.le_of_ble_eq_true rfl) dL_law_806 (by decide) (fun H1 locs1 hk hP1 => ?_)
  have hPM := lw_frC F hPM hk
  obtain ⟨hPC, -, hS⟩ := hP1
  refine lv_aload_n hx hb dL_law_809 rfl (lv_at hl 2 rfl) ?_
  refine lv_aload_n hx hb dL_law_810 rfl (lv_at hl 0 rfl) ?_
  refine lv_iload_n hx hb dL_law_811 rfl (lv_at hl 3 rfl) ?_
  refine lv_iconst (v := 1) hx hb dL_law_812 (by decide) ?_
  refine lv_iadd hx hb dL_law_813 ?_
  refine va_sld hx hb hX hbl hbA hS hj1 dL_law_814 ?_
  refine lv_aload_n hx hb dL_law_815 rfl (lv_at hl 0 rfl) ?_
  refine lv_iload_n hx hb dL_law_816 rfl (lv_at hl 3 rfl) ?_
  refine lv_iconst (v := 2) hx hb dL_law_817 (by decide) ?_
  refine lv_iadd hx hb dL_law_818 ?_
  refine va_sld hx hb hX hbl hbA hS hj2 dL_law_819 ?_
  refine lw_calll CM ⟨hPM, DM _, hS⟩ (As := [.int (xs (x3 + 1).toNatClampNeg), .int (xs (x3 + 2).toNatClampNeg)]) (m7_edge g7) wl7_edge (ci := 7) rfl zm0 rfl (by decide) hl.1 rfl (Nat.le_of_ble_eq_true rfl) dL_law_820 (by decide) (fun H1 locs1 hk hP1 => ?_)
  have hPC := lw_frM F hPC hk
  obtain ⟨hPM, -, hS⟩ := hP1
  refine W.lcmp hx hb dL_law_823 ?_
  refine lv_if_eq (tgt := 1005) hx hb dL_law_824 (by decide) (fun _ => ?_) (fun q => absurd ((lg_cmp_eq _ _).mpr rfl) q)
  refine lv_iinc (v := x3 + 6) (lv' := [(3, .int (x3 + 6)), (0, .ref b), (1, .ref (adC 0)), (2, .ref (adM 0))]) hx hb dL_law_1005 hl (k := 3) rfl rfl (by decide) rfl (fun ls hl => ?_)
  refine lv_goto (tgt := 18) hx hb dL_law_1008 (by decide) ?_
  exact ih (i + 6) (x3 + 6) h6 (by omega) (by rw [ex3]; exact lw_six6 i) _ _ hI' _ _ hPC hPM hS ls (lv_sub hl [1, 2, 3, 0] rfl)
set_option maxHeartbeats 4000000 in
set_option maxRecDepth 100000 in
theorem law_c18 {p : Program} {l : Launch} {e : Env} {s : State} {m : MethodId} {below : List Frame} {meth : Method} {c : Code} {D : va_G} {cA : Nat → ClassId} {adC adM : Nat → Nat} {hC hM : Nat} {b L : Nat} {xs : Nat → Int32} {I : Zs → Zs → Prop} (hsim : zSim I) (hL : L ≤ 3072) (C0 : lw_At p s m meth c b L xs) (F : lwF s hC hM adC adM)
    (CC : zCx p s m #[Value.ref b] meth c code 4 R_law ret D adC cA (fun q : Nat => s.heap.size ≤ q)) (CM : zCx p s m #[Value.ref b] meth c code 4 R_law ret D adM cA (fun q : Nat => s.heap.size ≤ q)) (DC : ∀ S, va_D (fun q : Nat => s.heap.size ≤ q) (zw zC adC cA S)) (DM : ∀ S, va_D (fun q : Nat => s.heap.size ≤ q) (zw zM adM cA S))
    {n i : Nat} {x3 : Int32} (hi : i ≤ L) (hin : L + 6 ≤ i + (n + 1)) (ex3 : x3 = nI i) (h6 : i + 6 ≤ L) {SC SM : Zs} (hI : I SC SM) {H : Heap} {locs : List Loc} (hPC : va_P D zcl (zw zC adC cA SC) H) (hPM : va_P D zcl (zw zM adM cA SM) H) (hS : va_S (fun q : Nat => s.heap.size ≤ q) s.heap H locs) {ls : Array Slot} (hl : lv_has ls 4 [(0, .ref b), (1, .ref (adC 0)), (2, .ref (adM 0)), (3, .int x3)])
    (ih : ∀ (i : Nat) (x3 : Int32), i ≤ L → L + 6 ≤ i + n → x3 = nI i → ∀ (SC SM : Zs), I SC SM → ∀ (H : Heap) (locs : List Loc), va_P D zcl (zw zC adC cA SC) H → va_P D zcl (zw zM adM cA SM) H → va_S (fun q : Nat => s.heap.size ≤ q) s.heap H locs → ∀ (ls : Array Slot), lv_has ls 4 [(0, .ref b), (1, .ref (adC 0)), (2, .ref (adM 0)), (3, .int x3)] → W p l e room_1 s m #[Value.ref b] below meth c H locs 200 3000 (lw_Z below #[Value.ref b] s) (F0 m 18 ls [])) :
    W p l e room_1 s m #[Value.ref b] below meth c H locs 200 3000 (lw_Z below #[Value.ref b] s) (F0 m 829 ls []) := by
  have hx := CC.1
  have hb := CC.2.1
  obtain ⟨-, -, hr, -, -, -, hX, hbl, hlocks, -⟩ := C0
  have hbA : ¬ (fun q : Nat => s.heap.size ≤ q) b := Nat.not_le.mpr hbl
  have hj0 : vp_in x3 L := by rw [ex3]; exact lw_in0 (by omega) hL
  have hj1 : vp_in (x3 + 1) L := by rw [ex3]; exact lw_in (k := 1) (by omega) hL
  have hj2 : vp_in (x3 + 2) L := by rw [ex3]; exact lw_in (k := 2) (by omega) hL
  have hj3 : vp_in (x3 + 3) L := by rw [ex3]; exact lw_in (k := 3) (by omega) hL
  have hj4 : vp_in (x3 + 4) L := by rw [ex3]; exact lw_in (k := 4) (by omega) hL
  have hj5 : vp_in (x3 + 5) L := by rw [ex3]; exact lw_in (k := 5) (by omega) hL
  obtain ⟨r, SC', SM', g6, g7, hI'⟩ := hsim.2.2.2.2.2.2.2.2.2.2.2.2.2.2.2.2.2.2.1 SC SM (xs (x3 + 1).toNatClampNeg) hI
  refine lv_aload_n hx hb dL_law_829 rfl (lv_at hl 1 rfl) ?_
  refine lv_aload_n hx hb dL_law_830 rfl (lv_at hl 0 rfl) ?_
  refine lv_iload_n hx hb dL_law_831 rfl (lv_at hl 3 rfl) ?_
  refine lv_iconst (v := 1) hx hb dL_law_832 (by decide) ?_
  refine lv_iadd hx hb dL_law_833 ?_
  refine va_sld hx hb hX hbl hbA hS hj1 dL_law_834 ?_
  refine lw_calll CC ⟨hPC, DC _, hS⟩ (As := [.int (xs (x3 + 1).toNatClampNeg)]) (m6_move g6) wl6_move (ci := 6) rfl zs0 rfl (by decide) hl.1 rfl (Nat.le_of_ble_eq_true rfl) dL_law_835 (by decide) (fun H1 locs1 hk hP1 => ?_)
  have hPM := lw_frC F hPM hk
  obtain ⟨hPC, -, hS⟩ := hP1
  refine lv_aload_n hx hb dL_law_838 rfl (lv_at hl 2 rfl) ?_
  refine lv_aload_n hx hb dL_law_839 rfl (lv_at hl 0 rfl) ?_
  refine lv_iload_n hx hb dL_law_840 rfl (lv_at hl 3 rfl) ?_
  refine lv_iconst (v := 1) hx hb dL_law_841 (by decide) ?_
  refine lv_iadd hx hb dL_law_842 ?_
  refine va_sld hx hb hX hbl hbA hS hj1 dL_law_843 ?_
  refine lw_calll CM ⟨hPM, DM _, hS⟩ (As := [.int (xs (x3 + 1).toNatClampNeg)]) (m7_move g7) wl7_move (ci := 7) rfl zm0 rfl (by decide) hl.1 rfl (Nat.le_of_ble_eq_true rfl) dL_law_844 (by decide) (fun H1 locs1 hk hP1 => ?_)
  have hPC := lw_frM F hPC hk
  obtain ⟨hPM, -, hS⟩ := hP1
  refine W.lcmp hx hb dL_law_847 ?_
  refine lv_if_eq (tgt := 1005) hx hb dL_law_848 (by decide) (fun _ => ?_) (fun q => absurd ((lg_cmp_eq _ _).mpr rfl) q)
  refine lv_iinc (v := x3 + 6) (lv' := [(3, .int (x3 + 6)), (0, .ref b), (1, .ref (adC 0)), (2, .ref (adM 0))]) hx hb dL_law_1005 hl (k := 3) rfl rfl (by decide) rfl (fun ls hl => ?_)
  refine lv_goto (tgt := 18) hx hb dL_law_1008 (by decide) ?_
  exact ih (i + 6) (x3 + 6) h6 (by omega) (by rw [ex3]; exact lw_six6 i) _ _ hI' _ _ hPC hPM hS ls (lv_sub hl [1, 2, 3, 0] rfl)
set_option maxHeartbeats 4000000 in
set_option maxRecDepth 100000 in
theorem law_c19 {p : Program} {l : Launch} {e : Env} {s : State} {m : MethodId} {below : List Frame} {meth : Method} {c : Code} {D : va_G} {cA : Nat → ClassId} {adC adM : Nat → Nat} {hC hM : Nat} {b L : Nat} {xs : Nat → Int32} {I : Zs → Zs → Prop} (hsim : zSim I) (hL : L ≤ 3072) (C0 : lw_At p s m meth c b L xs) (F : lwF s hC hM adC adM)
    (CC : zCx p s m #[Value.ref b] meth c code 4 R_law ret D adC cA (fun q : Nat => s.heap.size ≤ q)) (CM : zCx p s m #[Value.ref b] meth c code 4 R_law ret D adM cA (fun q : Nat => s.heap.size ≤ q)) (DC : ∀ S, va_D (fun q : Nat => s.heap.size ≤ q) (zw zC adC cA S)) (DM : ∀ S, va_D (fun q : Nat => s.heap.size ≤ q) (zw zM adM cA S))
    {n i : Nat} {x3 : Int32} (hi : i ≤ L) (hin : L + 6 ≤ i + (n + 1)) (ex3 : x3 = nI i) (h6 : i + 6 ≤ L) {SC SM : Zs} (hI : I SC SM) {H : Heap} {locs : List Loc} (hPC : va_P D zcl (zw zC adC cA SC) H) (hPM : va_P D zcl (zw zM adM cA SM) H) (hS : va_S (fun q : Nat => s.heap.size ≤ q) s.heap H locs) {ls : Array Slot} (hl : lv_has ls 4 [(0, .ref b), (1, .ref (adC 0)), (2, .ref (adM 0)), (3, .int x3)])
    (ih : ∀ (i : Nat) (x3 : Int32), i ≤ L → L + 6 ≤ i + n → x3 = nI i → ∀ (SC SM : Zs), I SC SM → ∀ (H : Heap) (locs : List Loc), va_P D zcl (zw zC adC cA SC) H → va_P D zcl (zw zM adM cA SM) H → va_S (fun q : Nat => s.heap.size ≤ q) s.heap H locs → ∀ (ls : Array Slot), lv_has ls 4 [(0, .ref b), (1, .ref (adC 0)), (2, .ref (adM 0)), (3, .int x3)] → W p l e room_1 s m #[Value.ref b] below meth c H locs 200 3000 (lw_Z below #[Value.ref b] s) (F0 m 18 ls [])) :
    W p l e room_1 s m #[Value.ref b] below meth c H locs 200 3000 (lw_Z below #[Value.ref b] s) (F0 m 853 ls []) := by
  have hx := CC.1
  have hb := CC.2.1
  obtain ⟨-, -, hr, -, -, -, hX, hbl, hlocks, -⟩ := C0
  have hbA : ¬ (fun q : Nat => s.heap.size ≤ q) b := Nat.not_le.mpr hbl
  have hj0 : vp_in x3 L := by rw [ex3]; exact lw_in0 (by omega) hL
  have hj1 : vp_in (x3 + 1) L := by rw [ex3]; exact lw_in (k := 1) (by omega) hL
  have hj2 : vp_in (x3 + 2) L := by rw [ex3]; exact lw_in (k := 2) (by omega) hL
  have hj3 : vp_in (x3 + 3) L := by rw [ex3]; exact lw_in (k := 3) (by omega) hL
  have hj4 : vp_in (x3 + 4) L := by rw [ex3]; exact lw_in (k := 4) (by omega) hL
  have hj5 : vp_in (x3 + 5) L := by rw [ex3]; exact lw_in (k := 5) (by omega) hL
  obtain ⟨r, SC', SM', ⟨g6, e6⟩, g7, hI'⟩ := hsim.2.2.2.2.2.2.2.2.2.2.2.2.2.2.2.2.2.2.2.1 SC SM (xs (x3 + 1).toNatClampNeg) hI
  rw [e6] at hI'
  refine lv_aload_n hx hb dL_law_853 rfl (lv_at hl 1 rfl) ?_
  refine lv_aload_n hx hb dL_law_854 rfl (lv_at hl 0 rfl) ?_
  refine lv_iload_n hx hb dL_law_855 rfl (lv_at hl 3 rfl) ?_
  refine lv_iconst (v := 1) hx hb dL_law_856 (by decide) ?_
  refine lv_iadd hx hb dL_law_857 ?_
  refine va_sld hx hb hX hbl hbA hS hj1 dL_law_858 ?_
  refine lw_calll CC ⟨hPC, DC _, hS⟩ (As := [.int (xs (x3 + 1).toNatClampNeg)]) (m6_kind g6) wl6_kind (ci := 6) rfl zs0 rfl (by decide) hl.1 rfl (Nat.le_of_ble_eq_true rfl) dL_law_859 (by decide) (fun H1 locs1 hk hP1 => ?_)
  have hPM := lw_frC F hPM hk
  obtain ⟨hPC, -, hS⟩ := hP1
  refine lv_aload_n hx hb dL_law_862 rfl (lv_at hl 2 rfl) ?_
  refine lv_aload_n hx hb dL_law_863 rfl (lv_at hl 0 rfl) ?_
  refine lv_iload_n hx hb dL_law_864 rfl (lv_at hl 3 rfl) ?_
  refine lv_iconst (v := 1) hx hb dL_law_865 (by decide) ?_
  refine lv_iadd hx hb dL_law_866 ?_
  refine va_sld hx hb hX hbl hbA hS hj1 dL_law_867 ?_
  refine lw_calll CM ⟨hPM, DM _, hS⟩ (As := [.int (xs (x3 + 1).toNatClampNeg)]) (m7_kind g7) wl7_kind (ci := 7) rfl zm0 rfl (by decide) hl.1 rfl (Nat.le_of_ble_eq_true rfl) dL_law_868 (by decide) (fun H1 locs1 hk hP1 => ?_)
  have hPC := lw_frM F hPC hk
  obtain ⟨hPM, -, hS⟩ := hP1
  refine W.lcmp hx hb dL_law_871 ?_
  refine lv_if_eq (tgt := 1005) hx hb dL_law_872 (by decide) (fun _ => ?_) (fun q => absurd ((lg_cmp_eq _ _).mpr rfl) q)
  refine lv_iinc (v := x3 + 6) (lv' := [(3, .int (x3 + 6)), (0, .ref b), (1, .ref (adC 0)), (2, .ref (adM 0))]) hx hb dL_law_1005 hl (k := 3) rfl rfl (by decide) rfl (fun ls hl => ?_)
  refine lv_goto (tgt := 18) hx hb dL_law_1008 (by decide) ?_
  exact ih (i + 6) (x3 + 6) h6 (by omega) (by rw [ex3]; exact lw_six6 i) _ _ hI' _ _ hPC hPM hS ls (lv_sub hl [1, 2, 3, 0] rfl)
set_option maxHeartbeats 4000000 in
set_option maxRecDepth 100000 in
theorem law_c20 {p : Program} {l : Launch} {e : Env} {s : State} {m : MethodId} {below : List Frame} {meth : Method} {c : Code} {D : va_G} {cA : Nat → ClassId} {adC adM : Nat → Nat} {hC hM : Nat} {b L : Nat} {xs : Nat → Int32} {I : Zs → Zs → Prop} (hsim : zSim I) (hL : L ≤ 3072) (C0 : lw_At p s m meth c b L xs) (F : lwF s hC hM adC adM)
    (CC : zCx p s m #[Value.ref b] meth c code 4 R_law ret D adC cA (fun q : Nat => s.heap.size ≤ q)) (CM : zCx p s m #[Value.ref b] meth c code 4 R_law ret D adM cA (fun q : Nat => s.heap.size ≤ q)) (DC : ∀ S, va_D (fun q : Nat => s.heap.size ≤ q) (zw zC adC cA S)) (DM : ∀ S, va_D (fun q : Nat => s.heap.size ≤ q) (zw zM adM cA S))
    {n i : Nat} {x3 : Int32} (hi : i ≤ L) (hin : L + 6 ≤ i + (n + 1)) (ex3 : x3 = nI i) (h6 : i + 6 ≤ L) {SC SM : Zs} (hI : I SC SM) {H : Heap} {locs : List Loc} (hPC : va_P D zcl (zw zC adC cA SC) H) (hPM : va_P D zcl (zw zM adM cA SM) H) (hS : va_S (fun q : Nat => s.heap.size ≤ q) s.heap H locs) {ls : Array Slot} (hl : lv_has ls 4 [(0, .ref b), (1, .ref (adC 0)), (2, .ref (adM 0)), (3, .int x3)])
    (ih : ∀ (i : Nat) (x3 : Int32), i ≤ L → L + 6 ≤ i + n → x3 = nI i → ∀ (SC SM : Zs), I SC SM → ∀ (H : Heap) (locs : List Loc), va_P D zcl (zw zC adC cA SC) H → va_P D zcl (zw zM adM cA SM) H → va_S (fun q : Nat => s.heap.size ≤ q) s.heap H locs → ∀ (ls : Array Slot), lv_has ls 4 [(0, .ref b), (1, .ref (adC 0)), (2, .ref (adM 0)), (3, .int x3)] → W p l e room_1 s m #[Value.ref b] below meth c H locs 200 3000 (lw_Z below #[Value.ref b] s) (F0 m 18 ls [])) :
    W p l e room_1 s m #[Value.ref b] below meth c H locs 200 3000 (lw_Z below #[Value.ref b] s) (F0 m 877 ls []) := by
  have hx := CC.1
  have hb := CC.2.1
  obtain ⟨-, -, hr, -, -, -, hX, hbl, hlocks, -⟩ := C0
  have hbA : ¬ (fun q : Nat => s.heap.size ≤ q) b := Nat.not_le.mpr hbl
  have hj0 : vp_in x3 L := by rw [ex3]; exact lw_in0 (by omega) hL
  have hj1 : vp_in (x3 + 1) L := by rw [ex3]; exact lw_in (k := 1) (by omega) hL
  have hj2 : vp_in (x3 + 2) L := by rw [ex3]; exact lw_in (k := 2) (by omega) hL
  have hj3 : vp_in (x3 + 3) L := by rw [ex3]; exact lw_in (k := 3) (by omega) hL
  have hj4 : vp_in (x3 + 4) L := by rw [ex3]; exact lw_in (k := 4) (by omega) hL
  have hj5 : vp_in (x3 + 5) L := by rw [ex3]; exact lw_in (k := 5) (by omega) hL
  obtain ⟨r, SC', SM', g6, g7, hI'⟩ := hsim.2.2.2.2.2.2.2.2.2.2.2.2.2.2.2.2.2.2.2.2.1 SC SM (xs (x3 + 1).toNatClampNeg) (xs (x3 + 2).toNatClampNeg) hI
  refine lv_aload_n hx hb dL_law_877 rfl (lv_at hl 1 rfl) ?_
  refine lv_aload_n hx hb dL_law_878 rfl (lv_at hl 0 rfl) ?_
  refine lv_iload_n hx hb dL_law_879 rfl (lv_at hl 3 rfl) ?_
  refine lv_iconst (v := 1) hx hb dL_law_880 (by decide) ?_
  refine lv_iadd hx hb dL_law_881 ?_
  refine va_sld hx hb hX hbl hbA hS hj1 dL_law_882 ?_
  refine lv_aload_n hx hb dL_law_883 rfl (lv_at hl 0 rfl) ?_
  refine lv_iload_n hx hb dL_law_884 rfl (lv_at hl 3 rfl) ?_
  refine lv_iconst (v := 2) hx hb dL_law_885 (by decide) ?_
  refine lv_iadd hx hb dL_law_886 ?_
  refine va_sld hx hb hX hbl hbA hS hj2 dL_law_887 ?_
  refine lw_calll CC ⟨hPC, DC _, hS⟩ (As := [.int (xs (x3 + 1).toNatClampNeg), .int (xs (x3 + 2).toNatClampNeg)]) (m6_as g6) wl6_as (ci := 6) rfl zs0 rfl (by decide) hl.1 rfl (Nat.le_of_ble_eq_true rfl) dL_law_888 (by decide) (fun H1 locs1 hk hP1 => ?_)
  have hPM := lw_frC F hPM hk
  obtain ⟨hPC, -, hS⟩ := hP1
  refine lv_aload_n hx hb dL_law_891 rfl (lv_at hl 2 rfl) ?_
  refine lv_aload_n hx hb dL_law_892 rfl (lv_at hl 0 rfl) ?_
  refine lv_iload_n hx hb dL_law_893 rfl (lv_at hl 3 rfl) ?_
  refine lv_iconst (v := 1) hx hb dL_law_894 (by decide) ?_
  refine lv_iadd hx hb dL_law_895 ?_
  refine va_sld hx hb hX hbl hbA hS hj1 dL_law_896 ?_
  refine lv_aload_n hx hb dL_law_897 rfl (lv_at hl 0 rfl) ?_
  refine lv_iload_n hx hb dL_law_898 rfl (lv_at hl 3 rfl) ?_
  refine lv_iconst (v := 2) hx hb dL_law_899 (by decide) ?_
  refine lv_iadd hx hb dL_law_900 ?_
  refine va_sld hx hb hX hbl hbA hS hj2 dL_law_901 ?_
  refine lw_calll CM ⟨hPM, DM _, hS⟩ (As := [.int (xs (x3 + 1).toNatClampNeg), .int (xs (x3 + 2).toNatClampNeg)]) (m7_as g7) wl7_as (ci := 7) rfl zm0 rfl (by decide) hl.1 rfl (Nat.le_of_ble_eq_true rfl) dL_law_902 (by decide) (fun H1 locs1 hk hP1 => ?_)
  have hPC := lw_frM F hPC hk
  obtain ⟨hPM, -, hS⟩ := hP1
  refine W.lcmp hx hb dL_law_905 ?_
  refine lv_if_eq (tgt := 1005) hx hb dL_law_906 (by decide) (fun _ => ?_) (fun q => absurd ((lg_cmp_eq _ _).mpr rfl) q)
  refine lv_iinc (v := x3 + 6) (lv' := [(3, .int (x3 + 6)), (0, .ref b), (1, .ref (adC 0)), (2, .ref (adM 0))]) hx hb dL_law_1005 hl (k := 3) rfl rfl (by decide) rfl (fun ls hl => ?_)
  refine lv_goto (tgt := 18) hx hb dL_law_1008 (by decide) ?_
  exact ih (i + 6) (x3 + 6) h6 (by omega) (by rw [ex3]; exact lw_six6 i) _ _ hI' _ _ hPC hPM hS ls (lv_sub hl [1, 2, 3, 0] rfl)
set_option maxHeartbeats 4000000 in
set_option maxRecDepth 100000 in
theorem law_c21 {p : Program} {l : Launch} {e : Env} {s : State} {m : MethodId} {below : List Frame} {meth : Method} {c : Code} {D : va_G} {cA : Nat → ClassId} {adC adM : Nat → Nat} {hC hM : Nat} {b L : Nat} {xs : Nat → Int32} {I : Zs → Zs → Prop} (hsim : zSim I) (hL : L ≤ 3072) (C0 : lw_At p s m meth c b L xs) (F : lwF s hC hM adC adM)
    (CC : zCx p s m #[Value.ref b] meth c code 4 R_law ret D adC cA (fun q : Nat => s.heap.size ≤ q)) (CM : zCx p s m #[Value.ref b] meth c code 4 R_law ret D adM cA (fun q : Nat => s.heap.size ≤ q)) (DC : ∀ S, va_D (fun q : Nat => s.heap.size ≤ q) (zw zC adC cA S)) (DM : ∀ S, va_D (fun q : Nat => s.heap.size ≤ q) (zw zM adM cA S))
    {n i : Nat} {x3 : Int32} (hi : i ≤ L) (hin : L + 6 ≤ i + (n + 1)) (ex3 : x3 = nI i) (h6 : i + 6 ≤ L) {SC SM : Zs} (hI : I SC SM) {H : Heap} {locs : List Loc} (hPC : va_P D zcl (zw zC adC cA SC) H) (hPM : va_P D zcl (zw zM adM cA SM) H) (hS : va_S (fun q : Nat => s.heap.size ≤ q) s.heap H locs) {ls : Array Slot} (hl : lv_has ls 4 [(0, .ref b), (1, .ref (adC 0)), (2, .ref (adM 0)), (3, .int x3)])
    (ih : ∀ (i : Nat) (x3 : Int32), i ≤ L → L + 6 ≤ i + n → x3 = nI i → ∀ (SC SM : Zs), I SC SM → ∀ (H : Heap) (locs : List Loc), va_P D zcl (zw zC adC cA SC) H → va_P D zcl (zw zM adM cA SM) H → va_S (fun q : Nat => s.heap.size ≤ q) s.heap H locs → ∀ (ls : Array Slot), lv_has ls 4 [(0, .ref b), (1, .ref (adC 0)), (2, .ref (adM 0)), (3, .int x3)] → W p l e room_1 s m #[Value.ref b] below meth c H locs 200 3000 (lw_Z below #[Value.ref b] s) (F0 m 18 ls [])) :
    W p l e room_1 s m #[Value.ref b] below meth c H locs 200 3000 (lw_Z below #[Value.ref b] s) (F0 m 911 ls []) := by
  have hx := CC.1
  have hb := CC.2.1
  obtain ⟨-, -, hr, -, -, -, hX, hbl, hlocks, -⟩ := C0
  have hbA : ¬ (fun q : Nat => s.heap.size ≤ q) b := Nat.not_le.mpr hbl
  have hj0 : vp_in x3 L := by rw [ex3]; exact lw_in0 (by omega) hL
  have hj1 : vp_in (x3 + 1) L := by rw [ex3]; exact lw_in (k := 1) (by omega) hL
  have hj2 : vp_in (x3 + 2) L := by rw [ex3]; exact lw_in (k := 2) (by omega) hL
  have hj3 : vp_in (x3 + 3) L := by rw [ex3]; exact lw_in (k := 3) (by omega) hL
  have hj4 : vp_in (x3 + 4) L := by rw [ex3]; exact lw_in (k := 4) (by omega) hL
  have hj5 : vp_in (x3 + 5) L := by rw [ex3]; exact lw_in (k := 5) (by omega) hL
  obtain ⟨r, SC', SM', g6, g7, hI'⟩ := hsim.2.2.2.2.2.2.2.2.2.2.2.2.2.2.2.2.2.2.2.2.2.1 SC SM (xs (x3 + 1).toNatClampNeg) (xs (x3 + 2).toNatClampNeg) hI
  refine lv_aload_n hx hb dL_law_911 rfl (lv_at hl 1 rfl) ?_
  refine lv_aload_n hx hb dL_law_912 rfl (lv_at hl 0 rfl) ?_
  refine lv_iload_n hx hb dL_law_913 rfl (lv_at hl 3 rfl) ?_
  refine lv_iconst (v := 1) hx hb dL_law_914 (by decide) ?_
  refine lv_iadd hx hb dL_law_915 ?_
  refine va_sld hx hb hX hbl hbA hS hj1 dL_law_916 ?_
  refine lv_aload_n hx hb dL_law_917 rfl (lv_at hl 0 rfl) ?_
  refine lv_iload_n hx hb dL_law_918 rfl (lv_at hl 3 rfl) ?_
  refine lv_iconst (v := 2) hx hb dL_law_919 (by decide) ?_
  refine lv_iadd hx hb dL_law_920 ?_
  refine va_sld hx hb hX hbl hbA hS hj2 dL_law_921 ?_
  refine lw_calll CC ⟨hPC, DC _, hS⟩ (As := [.int (xs (x3 + 1).toNatClampNeg), .int (xs (x3 + 2).toNatClampNeg)]) (m6_ask g6) wl6_ask (ci := 6) rfl zs0 rfl (by decide) hl.1 rfl (Nat.le_of_ble_eq_true rfl) dL_law_922 (by decide) (fun H1 locs1 hk hP1 => ?_)
  have hPM := lw_frC F hPM hk
  obtain ⟨hPC, -, hS⟩ := hP1
  refine lv_aload_n hx hb dL_law_925 rfl (lv_at hl 2 rfl) ?_
  refine lv_aload_n hx hb dL_law_926 rfl (lv_at hl 0 rfl) ?_
  refine lv_iload_n hx hb dL_law_927 rfl (lv_at hl 3 rfl) ?_
  refine lv_iconst (v := 1) hx hb dL_law_928 (by decide) ?_
  refine lv_iadd hx hb dL_law_929 ?_
  refine va_sld hx hb hX hbl hbA hS hj1 dL_law_930 ?_
  refine lv_aload_n hx hb dL_law_931 rfl (lv_at hl 0 rfl) ?_
  refine lv_iload_n hx hb dL_law_932 rfl (lv_at hl 3 rfl) ?_
  refine lv_iconst (v := 2) hx hb dL_law_933 (by decide) ?_
  refine lv_iadd hx hb dL_law_934 ?_
  refine va_sld hx hb hX hbl hbA hS hj2 dL_law_935 ?_
  refine lw_calll CM ⟨hPM, DM _, hS⟩ (As := [.int (xs (x3 + 1).toNatClampNeg), .int (xs (x3 + 2).toNatClampNeg)]) (m7_ask g7) wl7_ask (ci := 7) rfl zm0 rfl (by decide) hl.1 rfl (Nat.le_of_ble_eq_true rfl) dL_law_936 (by decide) (fun H1 locs1 hk hP1 => ?_)
  have hPC := lw_frM F hPC hk
  obtain ⟨hPM, -, hS⟩ := hP1
  refine W.lcmp hx hb dL_law_939 ?_
  refine lv_if_eq (tgt := 1005) hx hb dL_law_940 (by decide) (fun _ => ?_) (fun q => absurd ((lg_cmp_eq _ _).mpr rfl) q)
  refine lv_iinc (v := x3 + 6) (lv' := [(3, .int (x3 + 6)), (0, .ref b), (1, .ref (adC 0)), (2, .ref (adM 0))]) hx hb dL_law_1005 hl (k := 3) rfl rfl (by decide) rfl (fun ls hl => ?_)
  refine lv_goto (tgt := 18) hx hb dL_law_1008 (by decide) ?_
  exact ih (i + 6) (x3 + 6) h6 (by omega) (by rw [ex3]; exact lw_six6 i) _ _ hI' _ _ hPC hPM hS ls (lv_sub hl [1, 2, 3, 0] rfl)
set_option maxHeartbeats 4000000 in
set_option maxRecDepth 100000 in
theorem law_c22 {p : Program} {l : Launch} {e : Env} {s : State} {m : MethodId} {below : List Frame} {meth : Method} {c : Code} {D : va_G} {cA : Nat → ClassId} {adC adM : Nat → Nat} {hC hM : Nat} {b L : Nat} {xs : Nat → Int32} {I : Zs → Zs → Prop} (hsim : zSim I) (hL : L ≤ 3072) (C0 : lw_At p s m meth c b L xs) (F : lwF s hC hM adC adM)
    (CC : zCx p s m #[Value.ref b] meth c code 4 R_law ret D adC cA (fun q : Nat => s.heap.size ≤ q)) (CM : zCx p s m #[Value.ref b] meth c code 4 R_law ret D adM cA (fun q : Nat => s.heap.size ≤ q)) (DC : ∀ S, va_D (fun q : Nat => s.heap.size ≤ q) (zw zC adC cA S)) (DM : ∀ S, va_D (fun q : Nat => s.heap.size ≤ q) (zw zM adM cA S))
    {n i : Nat} {x3 : Int32} (hi : i ≤ L) (hin : L + 6 ≤ i + (n + 1)) (ex3 : x3 = nI i) (h6 : i + 6 ≤ L) {SC SM : Zs} (hI : I SC SM) {H : Heap} {locs : List Loc} (hPC : va_P D zcl (zw zC adC cA SC) H) (hPM : va_P D zcl (zw zM adM cA SM) H) (hS : va_S (fun q : Nat => s.heap.size ≤ q) s.heap H locs) {ls : Array Slot} (hl : lv_has ls 4 [(0, .ref b), (1, .ref (adC 0)), (2, .ref (adM 0)), (3, .int x3)])
    (ih : ∀ (i : Nat) (x3 : Int32), i ≤ L → L + 6 ≤ i + n → x3 = nI i → ∀ (SC SM : Zs), I SC SM → ∀ (H : Heap) (locs : List Loc), va_P D zcl (zw zC adC cA SC) H → va_P D zcl (zw zM adM cA SM) H → va_S (fun q : Nat => s.heap.size ≤ q) s.heap H locs → ∀ (ls : Array Slot), lv_has ls 4 [(0, .ref b), (1, .ref (adC 0)), (2, .ref (adM 0)), (3, .int x3)] → W p l e room_1 s m #[Value.ref b] below meth c H locs 200 3000 (lw_Z below #[Value.ref b] s) (F0 m 18 ls [])) :
    W p l e room_1 s m #[Value.ref b] below meth c H locs 200 3000 (lw_Z below #[Value.ref b] s) (F0 m 945 ls []) := by
  have hx := CC.1
  have hb := CC.2.1
  obtain ⟨-, -, hr, -, -, -, hX, hbl, hlocks, -⟩ := C0
  have hbA : ¬ (fun q : Nat => s.heap.size ≤ q) b := Nat.not_le.mpr hbl
  have hj0 : vp_in x3 L := by rw [ex3]; exact lw_in0 (by omega) hL
  have hj1 : vp_in (x3 + 1) L := by rw [ex3]; exact lw_in (k := 1) (by omega) hL
  have hj2 : vp_in (x3 + 2) L := by rw [ex3]; exact lw_in (k := 2) (by omega) hL
  have hj3 : vp_in (x3 + 3) L := by rw [ex3]; exact lw_in (k := 3) (by omega) hL
  have hj4 : vp_in (x3 + 4) L := by rw [ex3]; exact lw_in (k := 4) (by omega) hL
  have hj5 : vp_in (x3 + 5) L := by rw [ex3]; exact lw_in (k := 5) (by omega) hL
  obtain ⟨r, SC', SM', ⟨g6, e6⟩, g7, hI'⟩ := hsim.2.2.2.2.2.2.2.2.2.2.2.2.2.2.2.2.2.2.2.2.2.2.1 SC SM (xs (x3 + 1).toNatClampNeg) hI
  rw [e6] at hI'
  refine lv_aload_n hx hb dL_law_945 rfl (lv_at hl 1 rfl) ?_
  refine lv_aload_n hx hb dL_law_946 rfl (lv_at hl 0 rfl) ?_
  refine lv_iload_n hx hb dL_law_947 rfl (lv_at hl 3 rfl) ?_
  refine lv_iconst (v := 1) hx hb dL_law_948 (by decide) ?_
  refine lv_iadd hx hb dL_law_949 ?_
  refine va_sld hx hb hX hbl hbA hS hj1 dL_law_950 ?_
  refine lw_calli CC ⟨hPC, DC _, hS⟩ (As := [.int (xs (x3 + 1).toNatClampNeg)]) (m6_trace g6) wl6_trace (ci := 6) rfl zs0 rfl (by decide) hl.1 rfl (Nat.le_of_ble_eq_true rfl) dL_law_951 (by decide) (fun H1 locs1 hk hP1 => ?_)
  have hPM := lw_frC F hPM hk
  obtain ⟨hPC, -, hS⟩ := hP1
  refine lv_aload_n hx hb dL_law_954 rfl (lv_at hl 2 rfl) ?_
  refine lv_aload_n hx hb dL_law_955 rfl (lv_at hl 0 rfl) ?_
  refine lv_iload_n hx hb dL_law_956 rfl (lv_at hl 3 rfl) ?_
  refine lv_iconst (v := 1) hx hb dL_law_957 (by decide) ?_
  refine lv_iadd hx hb dL_law_958 ?_
  refine va_sld hx hb hX hbl hbA hS hj1 dL_law_959 ?_
  refine lw_calli CM ⟨hPM, DM _, hS⟩ (As := [.int (xs (x3 + 1).toNatClampNeg)]) (m7_trace g7) wl7_trace (ci := 7) rfl zm0 rfl (by decide) hl.1 rfl (Nat.le_of_ble_eq_true rfl) dL_law_960 (by decide) (fun H1 locs1 hk hP1 => ?_)
  have hPC := lw_frM F hPC hk
  obtain ⟨hPM, -, hS⟩ := hP1
  refine lv_icmp_eq (tgt := 1005) hx hb dL_law_963 (by decide) (fun _ => ?_) (fun q => absurd rfl q)
  refine lv_iinc (v := x3 + 6) (lv' := [(3, .int (x3 + 6)), (0, .ref b), (1, .ref (adC 0)), (2, .ref (adM 0))]) hx hb dL_law_1005 hl (k := 3) rfl rfl (by decide) rfl (fun ls hl => ?_)
  refine lv_goto (tgt := 18) hx hb dL_law_1008 (by decide) ?_
  exact ih (i + 6) (x3 + 6) h6 (by omega) (by rw [ex3]; exact lw_six6 i) _ _ hI' _ _ hPC hPM hS ls (lv_sub hl [1, 2, 3, 0] rfl)
set_option maxHeartbeats 4000000 in
set_option maxRecDepth 100000 in
theorem law_c23 {p : Program} {l : Launch} {e : Env} {s : State} {m : MethodId} {below : List Frame} {meth : Method} {c : Code} {D : va_G} {cA : Nat → ClassId} {adC adM : Nat → Nat} {hC hM : Nat} {b L : Nat} {xs : Nat → Int32} {I : Zs → Zs → Prop} (hsim : zSim I) (hL : L ≤ 3072) (C0 : lw_At p s m meth c b L xs) (F : lwF s hC hM adC adM)
    (CC : zCx p s m #[Value.ref b] meth c code 4 R_law ret D adC cA (fun q : Nat => s.heap.size ≤ q)) (CM : zCx p s m #[Value.ref b] meth c code 4 R_law ret D adM cA (fun q : Nat => s.heap.size ≤ q)) (DC : ∀ S, va_D (fun q : Nat => s.heap.size ≤ q) (zw zC adC cA S)) (DM : ∀ S, va_D (fun q : Nat => s.heap.size ≤ q) (zw zM adM cA S))
    {n i : Nat} {x3 : Int32} (hi : i ≤ L) (hin : L + 6 ≤ i + (n + 1)) (ex3 : x3 = nI i) (h6 : i + 6 ≤ L) {SC SM : Zs} (hI : I SC SM) {H : Heap} {locs : List Loc} (hPC : va_P D zcl (zw zC adC cA SC) H) (hPM : va_P D zcl (zw zM adM cA SM) H) (hS : va_S (fun q : Nat => s.heap.size ≤ q) s.heap H locs) {ls : Array Slot} (hl : lv_has ls 4 [(0, .ref b), (1, .ref (adC 0)), (2, .ref (adM 0)), (3, .int x3)])
    (ih : ∀ (i : Nat) (x3 : Int32), i ≤ L → L + 6 ≤ i + n → x3 = nI i → ∀ (SC SM : Zs), I SC SM → ∀ (H : Heap) (locs : List Loc), va_P D zcl (zw zC adC cA SC) H → va_P D zcl (zw zM adM cA SM) H → va_S (fun q : Nat => s.heap.size ≤ q) s.heap H locs → ∀ (ls : Array Slot), lv_has ls 4 [(0, .ref b), (1, .ref (adC 0)), (2, .ref (adM 0)), (3, .int x3)] → W p l e room_1 s m #[Value.ref b] below meth c H locs 200 3000 (lw_Z below #[Value.ref b] s) (F0 m 18 ls [])) :
    W p l e room_1 s m #[Value.ref b] below meth c H locs 200 3000 (lw_Z below #[Value.ref b] s) (F0 m 968 ls []) := by
  have hx := CC.1
  have hb := CC.2.1
  obtain ⟨-, -, hr, -, -, -, hX, hbl, hlocks, -⟩ := C0
  have hbA : ¬ (fun q : Nat => s.heap.size ≤ q) b := Nat.not_le.mpr hbl
  have hj0 : vp_in x3 L := by rw [ex3]; exact lw_in0 (by omega) hL
  have hj1 : vp_in (x3 + 1) L := by rw [ex3]; exact lw_in (k := 1) (by omega) hL
  have hj2 : vp_in (x3 + 2) L := by rw [ex3]; exact lw_in (k := 2) (by omega) hL
  have hj3 : vp_in (x3 + 3) L := by rw [ex3]; exact lw_in (k := 3) (by omega) hL
  have hj4 : vp_in (x3 + 4) L := by rw [ex3]; exact lw_in (k := 4) (by omega) hL
  have hj5 : vp_in (x3 + 5) L := by rw [ex3]; exact lw_in (k := 5) (by omega) hL
  obtain ⟨r, SC', SM', ⟨g6, e6⟩, g7, hI'⟩ := hsim.2.2.2.2.2.2.2.2.2.2.2.2.2.2.2.2.2.2.2.2.2.2.2.1 SC SM (xs (x3 + 1).toNatClampNeg) hI
  rw [e6] at hI'
  refine lv_aload_n hx hb dL_law_968 rfl (lv_at hl 1 rfl) ?_
  refine lv_aload_n hx hb dL_law_969 rfl (lv_at hl 0 rfl) ?_
  refine lv_iload_n hx hb dL_law_970 rfl (lv_at hl 3 rfl) ?_
  refine lv_iconst (v := 1) hx hb dL_law_971 (by decide) ?_
  refine lv_iadd hx hb dL_law_972 ?_
  refine va_sld hx hb hX hbl hbA hS hj1 dL_law_973 ?_
  refine lw_calll CC ⟨hPC, DC _, hS⟩ (As := [.int (xs (x3 + 1).toNatClampNeg)]) (m6_count g6) wl6_count (ci := 6) rfl zs0 rfl (by decide) hl.1 rfl (Nat.le_of_ble_eq_true rfl) dL_law_974 (by decide) (fun H1 locs1 hk hP1 => ?_)
  have hPM := lw_frC F hPM hk
  obtain ⟨hPC, -, hS⟩ := hP1
  refine lv_aload_n hx hb dL_law_977 rfl (lv_at hl 2 rfl) ?_
  refine lv_aload_n hx hb dL_law_978 rfl (lv_at hl 0 rfl) ?_
  refine lv_iload_n hx hb dL_law_979 rfl (lv_at hl 3 rfl) ?_
  refine lv_iconst (v := 1) hx hb dL_law_980 (by decide) ?_
  refine lv_iadd hx hb dL_law_981 ?_
  refine va_sld hx hb hX hbl hbA hS hj1 dL_law_982 ?_
  refine lw_calll CM ⟨hPM, DM _, hS⟩ (As := [.int (xs (x3 + 1).toNatClampNeg)]) (m7_count g7) wl7_count (ci := 7) rfl zm0 rfl (by decide) hl.1 rfl (Nat.le_of_ble_eq_true rfl) dL_law_983 (by decide) (fun H1 locs1 hk hP1 => ?_)
  have hPC := lw_frM F hPC hk
  obtain ⟨hPM, -, hS⟩ := hP1
  refine W.lcmp hx hb dL_law_986 ?_
  refine lv_if_eq (tgt := 1005) hx hb dL_law_987 (by decide) (fun _ => ?_) (fun q => absurd ((lg_cmp_eq _ _).mpr rfl) q)
  refine lv_iinc (v := x3 + 6) (lv' := [(3, .int (x3 + 6)), (0, .ref b), (1, .ref (adC 0)), (2, .ref (adM 0))]) hx hb dL_law_1005 hl (k := 3) rfl rfl (by decide) rfl (fun ls hl => ?_)
  refine lv_goto (tgt := 18) hx hb dL_law_1008 (by decide) ?_
  exact ih (i + 6) (x3 + 6) h6 (by omega) (by rw [ex3]; exact lw_six6 i) _ _ hI' _ _ hPC hPM hS ls (lv_sub hl [1, 2, 3, 0] rfl)
set_option maxHeartbeats 4000000 in
set_option maxRecDepth 100000 in
theorem law_c24 {p : Program} {l : Launch} {e : Env} {s : State} {m : MethodId} {below : List Frame} {meth : Method} {c : Code} {D : va_G} {cA : Nat → ClassId} {adC adM : Nat → Nat} {hC hM : Nat} {b L : Nat} {xs : Nat → Int32} {I : Zs → Zs → Prop} (hsim : zSim I) (hL : L ≤ 3072) (C0 : lw_At p s m meth c b L xs) (F : lwF s hC hM adC adM)
    (CC : zCx p s m #[Value.ref b] meth c code 4 R_law ret D adC cA (fun q : Nat => s.heap.size ≤ q)) (CM : zCx p s m #[Value.ref b] meth c code 4 R_law ret D adM cA (fun q : Nat => s.heap.size ≤ q)) (DC : ∀ S, va_D (fun q : Nat => s.heap.size ≤ q) (zw zC adC cA S)) (DM : ∀ S, va_D (fun q : Nat => s.heap.size ≤ q) (zw zM adM cA S))
    {n i : Nat} {x3 : Int32} (hi : i ≤ L) (hin : L + 6 ≤ i + (n + 1)) (ex3 : x3 = nI i) (h6 : i + 6 ≤ L) {SC SM : Zs} (hI : I SC SM) {H : Heap} {locs : List Loc} (hPC : va_P D zcl (zw zC adC cA SC) H) (hPM : va_P D zcl (zw zM adM cA SM) H) (hS : va_S (fun q : Nat => s.heap.size ≤ q) s.heap H locs) {ls : Array Slot} (hl : lv_has ls 4 [(0, .ref b), (1, .ref (adC 0)), (2, .ref (adM 0)), (3, .int x3)])
    (ih : ∀ (i : Nat) (x3 : Int32), i ≤ L → L + 6 ≤ i + n → x3 = nI i → ∀ (SC SM : Zs), I SC SM → ∀ (H : Heap) (locs : List Loc), va_P D zcl (zw zC adC cA SC) H → va_P D zcl (zw zM adM cA SM) H → va_S (fun q : Nat => s.heap.size ≤ q) s.heap H locs → ∀ (ls : Array Slot), lv_has ls 4 [(0, .ref b), (1, .ref (adC 0)), (2, .ref (adM 0)), (3, .int x3)] → W p l e room_1 s m #[Value.ref b] below meth c H locs 200 3000 (lw_Z below #[Value.ref b] s) (F0 m 18 ls [])) :
    W p l e room_1 s m #[Value.ref b] below meth c H locs 200 3000 (lw_Z below #[Value.ref b] s) (F0 m 992 ls []) := by
  have hx := CC.1
  have hb := CC.2.1
  obtain ⟨-, -, hr, -, -, -, hX, hbl, hlocks, -⟩ := C0
  have hbA : ¬ (fun q : Nat => s.heap.size ≤ q) b := Nat.not_le.mpr hbl
  have hj0 : vp_in x3 L := by rw [ex3]; exact lw_in0 (by omega) hL
  have hj1 : vp_in (x3 + 1) L := by rw [ex3]; exact lw_in (k := 1) (by omega) hL
  have hj2 : vp_in (x3 + 2) L := by rw [ex3]; exact lw_in (k := 2) (by omega) hL
  have hj3 : vp_in (x3 + 3) L := by rw [ex3]; exact lw_in (k := 3) (by omega) hL
  have hj4 : vp_in (x3 + 4) L := by rw [ex3]; exact lw_in (k := 4) (by omega) hL
  have hj5 : vp_in (x3 + 5) L := by rw [ex3]; exact lw_in (k := 5) (by omega) hL
  obtain ⟨r, SC', SM', ⟨g6, e6⟩, g7, hI'⟩ := hsim.2.2.2.2.2.2.2.2.2.2.2.2.2.2.2.2.2.2.2.2.2.2.2.2 SC SM hI
  rw [e6] at hI'
  refine lv_aload_n hx hb dL_law_992 rfl (lv_at hl 1 rfl) ?_
  refine lw_calli CC ⟨hPC, DC _, hS⟩ (As := []) (by have q := m6_status (l := l) (D := D) (cA := cA) (ad := adC) (S := SC); rw [g6] at q; exact q) wl6_status (ci := 6) rfl zs0 rfl (by decide) hl.1 rfl (Nat.le_of_ble_eq_true rfl) dL_law_993 (by decide) (fun H1 locs1 hk hP1 => ?_)
  have hPM := lw_frC F hPM hk
  obtain ⟨hPC, -, hS⟩ := hP1
  refine lv_aload_n hx hb dL_law_996 rfl (lv_at hl 2 rfl) ?_
  refine lw_calli CM ⟨hPM, DM _, hS⟩ (As := []) (m7_status g7) wl7_status (ci := 7) rfl zm0 rfl (by decide) hl.1 rfl (Nat.le_of_ble_eq_true rfl) dL_law_997 (by decide) (fun H1 locs1 hk hP1 => ?_)
  have hPC := lw_frM F hPC hk
  obtain ⟨hPM, -, hS⟩ := hP1
  refine lv_icmp_eq (tgt := 1005) hx hb dL_law_1000 (by decide) (fun _ => ?_) (fun q => absurd rfl q)
  refine lv_iinc (v := x3 + 6) (lv' := [(3, .int (x3 + 6)), (0, .ref b), (1, .ref (adC 0)), (2, .ref (adM 0))]) hx hb dL_law_1005 hl (k := 3) rfl rfl (by decide) rfl (fun ls hl => ?_)
  refine lv_goto (tgt := 18) hx hb dL_law_1008 (by decide) ?_
  exact ih (i + 6) (x3 + 6) h6 (by omega) (by rw [ex3]; exact lw_six6 i) _ _ hI' _ _ hPC hPM hS ls (lv_sub hl [1, 2, 3, 0] rfl)
