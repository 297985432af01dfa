theorem zt_coder_c : Cond.code yJ0_coder_7d493 cJ0_coder_7d493 1 (some .byte) ∈ ztb := zmem 417 (by decide +kernel) (by decide +kernel)
theorem zt_coder_i : Cond.instanceMethod yJ0_coder_7d493 ∈ ztb := zmem 415 (by decide +kernel) (by decide +kernel)
theorem zt_coder_s : Cond.selects RJ0 yJ0_coder_7d493 yJ0_coder_7d493 ∈ ztb := zmem 416 (by decide +kernel) (by decide +kernel)
theorem zt_isL_c : Cond.code yJ0_isLatin1_aae02 cJ0_isLatin1_aae02 1 (some .boolean) ∈ ztb := zmem 427 (by decide +kernel) (by decide +kernel)
theorem zt_isL_i : Cond.instanceMethod yJ0_isLatin1_aae02 ∈ ztb := zmem 425 (by decide +kernel) (by decide +kernel)
theorem zt_isL_s : Cond.selects RJ0 yJ0_isLatin1_aae02 yJ0_isLatin1_aae02 ∈ ztb := zmem 426 (by decide +kernel) (by decide +kernel)
theorem zt_len_c : Cond.code yJ0_length_8abf5 cJ0_length_8abf5 1 (some .int) ∈ ztb := zmem 413 (by decide +kernel) (by decide +kernel)
theorem zt_len_i : Cond.instanceMethod yJ0_length_8abf5 ∈ ztb := zmem 411 (by decide +kernel) (by decide +kernel)
theorem zt_len_s : Cond.selects RJ0 yJ0_length_8abf5 yJ0_length_8abf5 ∈ ztb := zmem 412 (by decide +kernel) (by decide +kernel)
theorem zt_ch_c : Cond.code yJ0_charAt_5068e cJ0_charAt_5068e 2 (some .char) ∈ ztb := zmem 423 (by decide +kernel) (by decide +kernel)
theorem zt_ch_i : Cond.instanceMethod yJ0_charAt_5068e ∈ ztb := zmem 421 (by decide +kernel) (by decide +kernel)
theorem zt_ch_s : Cond.selects RJ0 yJ0_charAt_5068e yJ0_charAt_5068e ∈ ztb := zmem 422 (by decide +kernel) (by decide +kernel)
theorem zt_pci_c : Cond.code yJ3_checkIndex_8e157 cJ3_checkIndex_8e157 3 (some .int) ∈ ztb := zmem 438 (by decide +kernel) (by decide +kernel)
theorem zt_pci_t : Cond.static yJ3_checkIndex_8e157 ∈ ztb := zmem 437 (by decide +kernel) (by decide +kernel)
theorem zt_sci_c : Cond.code yJ0_checkIndex_df160 cJ0_checkIndex_df160 2 none ∈ ztb := zmem 433 (by decide +kernel) (by decide +kernel)
theorem zt_sci_t : Cond.static yJ0_checkIndex_df160 ∈ ztb := zmem 432 (by decide +kernel) (by decide +kernel)
theorem zt_lch_c : Cond.code yJ1_charAt_3b067 cJ1_charAt_3b067 2 (some .char) ∈ ztb := zmem 430 (by decide +kernel) (by decide +kernel)
theorem zt_lch_t : Cond.static yJ1_charAt_3b067 ∈ ztb := zmem 429 (by decide +kernel) (by decide +kernel)
theorem zt_nRJ0 : Cond.initialized RJ0 ∈ ztb := zmem 84 (by decide +kernel) (by decide +kernel)
theorem zt_nRJ1 : Cond.initialized RJ1 ∈ ztb := zmem 85 (by decide +kernel) (by decide +kernel)
theorem zt_nRJ3 : Cond.initialized RJ3 ∈ ztb := zmem 86 (by decide +kernel) (by decide +kernel)
theorem zt_fcs : Cond.fieldLink RJ0 38 "java/lang/String" "COMPACT_STRINGS" "Z" ∈ ztb := zmem 418 (by decide +kernel) (by decide +kernel)
theorem zt_fco : Cond.fieldLink RJ0 15 "java/lang/String" "coder" "B" ∈ ztb := zmem 1221 (by decide +kernel) (by decide +kernel)
theorem zt_fva : Cond.fieldLink RJ0 9 "java/lang/String" "value" "[B" ∈ ztb := zmem 1220 (by decide +kernel) (by decide +kernel)
theorem zt_fsi : Cond.fieldLink RJ0 1053 "jdk/internal/util/Preconditions" "SIOOBE_FORMATTER" "Ljava/util/function/BiFunction;" ∈ ztb := zmem 434 (by decide +kernel) (by decide +kernel)
theorem zt_m335 : Cond.methodLink RJ0 335 yJ0_coder_7d493 ∈ ztb := zmem 414 (by decide +kernel) (by decide +kernel)
theorem zt_m492 : Cond.methodLink RJ0 492 yJ0_isLatin1_aae02 ∈ ztb := zmem 424 (by decide +kernel) (by decide +kernel)
theorem zt_m495 : Cond.methodLink RJ0 495 yJ1_charAt_3b067 ∈ ztb := zmem 428 (by decide +kernel) (by decide +kernel)
theorem zt_m1059 : Cond.methodLink RJ0 1059 yJ3_checkIndex_8e157 ∈ ztb := zmem 436 (by decide +kernel) (by decide +kernel)
theorem zt_m9 : Cond.methodLink RJ1 9 yJ0_checkIndex_df160 ∈ ztb := zmem 431 (by decide +kernel) (by decide +kernel)
theorem zt_x98 : Cond.methodLink RX3 98 yJ0_length_8abf5 ∈ ztb := zmem 410 (by decide +kernel) (by decide +kernel)
theorem zt_x103 : Cond.methodLink RX3 103 yJ0_charAt_5068e ∈ ztb := zmem 420 (by decide +kernel) (by decide +kernel)
def zT (q : Nat) : Prop := q = 1000 ∨ q = 1001
def fT_ch (q : Nat) (x : Int32) : Int32 := (zTexts.getD (q - 1000) []).getD x.toNatClampNeg 0
theorem zT_i {q : Nat} (h : zT q) : ∃ i, i < 2 ∧ q = 1000 + i := by
  rcases h with rfl | rfl
  · exact ⟨0, by decide, rfl⟩
  · exact ⟨1, by decide, rfl⟩
/-- contracts of another small type -/
def zMt (ty : FieldType) (l : Launch) (y : MethodName) (bytes : ByteArray) (maxL : Nat) (fr lo : Nat) (D : va_G) (sh : List Zc) (ad : Nat → Nat) (cA : Nat → ClassId) (S : Zs) (av : List Value) (z : Int32 × Zs) : Prop :=
  ∀ sz : Nat, Met l y (.code y bytes maxL (some ty) :: ztb) (zrm fr lo) (zPc D sh ad cA sz S av) (zQi D sh ad cA (zA sh ad cA S sz) z) 0 0 (zA sh ad cA S sz)
section ZT
variable {p : Program} {l : Launch} {e : Env} {R : Room} {s : State} {m : MethodId} {args : Array Value} {below : List Frame} {meth : Method} {c : Code} {H : Heap} {locs : List Loc} {cells slots : Nat} {Q : State → Prop}
variable {cc bytes : ByteArray} {nL pc maxL fr lo n index : Nat} {own Cn : String} {ret ret2 : Option FieldType} {D : va_G} {cA : Nat → ClassId} {A : Nat → Prop} {ls : Array Slot} {rest st0 : List Value} {sh : List Zc} {ad : Nat → Nat} {S : Zs} {y : MethodName} {As : List Value} {ty : FieldType}
theorem z_tret (C : zCx p s m args meth c cc nL own (some ty) D ad cA A) (P : zP D sh ad cA A S s H locs) {v : Int32} {z : Int32 × Zs} (hz : (v, S) = z) (hn : narrow ty (.int v) = .int v) (hdg : decode cc pc = .ok (.ireturn, 1)) : W p l e R s m args below meth c H locs cells slots (MQ below (zQi D sh ad cA A z) args s cells slots A) (F0 m pc ls [.int v]) := by
  subst hz
  obtain ⟨hx, hb, hml, hown, hts, hK, hA, hr, hlk, -⟩ := C
  exact W.zret hx hb hr hn (fun t ht hW => ⟨⟨v, S, rfl, ⟨rfl, rfl⟩, by rw [ht]; exact P.1, va_K.moved hW.alike hK, P.2.1⟩, P.2.2.F ht⟩) P.2.2.2.2 hdg hlk
theorem z_recvS (C : zCx p s m args meth c cc nL own ret D ad cA A) (P : zP D sh ad cA A S s H locs) {q : Nat} (hq : zT q) : ∃ cell : Cell, H[ad q]? = some cell ∧ cell.vm.isStatics = false ∧ s.vm.findClass RJ0 = some cell.cls := by
  obtain ⟨i, hi, rfl⟩ := zT_i hq
  exact vk_recv (i := i) (adK := fun i => ad (1000 + i)) C.2.2.2.2.2.2.2.2.2.2.2.2.2.2.1.1 hi P.2.2
theorem z_callTV (C : zCx p s m args meth c cc nL own ret2 D ad cA A) (P : zP D sh ad cA A S s H locs) {q : Nat} (hq : zT q) {r : Int32} {S' : Zs} (hM : zMt ty l y bytes maxL fr lo D sh ad cA S (.ref (ad q) :: As) (r, S')) (hw : zWV own index RJ0 y bytes maxL (some ty) n) (hn : As.length = n) (hroom : fr + 1 ≤ R.frames ∧ 8 + (maxL + 11) + lo ≤ R.locals) (hl : ls.size = nL) (hst : st0 = As.reverse ++ .ref (ad q) :: rest) (hcat : (rest.map fun v => v.category).sum ≤ 8) (hdg : decode cc pc = .ok (.invokevirtual index, 3)) (hf : cells ≤ R.cells ∧ slots ≤ R.slots)
    (kk : ∀ (H1 : Heap) (locs1 : List Loc), zP D sh ad cA A S' s H1 locs1 → W p l e R s m args below meth c H1 locs1 cells slots Q (F0 m (pc + 3) ls (.int r :: rest))) : W p l e R s m args below meth c H locs cells slots Q (F0 m pc ls st0) := by
  have hfr := zA_free P.2.1 P.2.2 C.2.2.2.2.2.2.1
  have hrv := z_recvS C P hq
  obtain ⟨hx, hb, hml, hown, hts, hK, hA, -, -, hSx⟩ := C
  obtain ⟨w1, w2, w3, w4, w5, w6⟩ := hw
  have hg : GoodIn ztb (wsV own index RJ0 y (.code y bytes maxL (some ty) :: ztb)) := zGood (fun w h => by
    rcases List.mem_append.mp h with h | h
    · simp only [List.mem_cons, List.not_mem_nil, or_false] at h
      rcases h with rfl | rfl | rfl | rfl <;> assumption
    · rcases List.mem_cons.mp h with rfl | h
      · exact w5
      · exact h)
  have run : va_Run p l e R s m args below meth c H locs cells slots 0 0 (F0 m pc ls st0) rest (zQi D sh ad cA (zA sh ad cA S H.size) (r, S') (Value.ref (ad q) :: As).toArray) (zA sh ad cA S H.size) :=
    va_runV (As := As) (rest := rest) ⟨hx, hb, hml, hown, hts⟩ (hM H.size) (cwV n hts hg rfl rfl rfl w6 hroom) ⟨zPc_blind, hrv, fun U hU hW => ⟨rfl, by rw [hU], by rw [hU]; exact P.1, va_K.moved hW.alike hK, P.2.1.weaken (fun _ _ _ _ => trivial), hSx.pass P.2.2 hU hW hfr⟩⟩ rfl hn hl hst (lv_room hcat) hdg hf
  refine va_calli run P.2.2 (fun q _ h => hfr q h) hfr (fun r1 S1 t H1 locs1 ht hvm hp hB hz1 hk1 hS => ?_)
  obtain ⟨rfl, rfl⟩ := hp
  obtain ⟨hP1, hK1, hD1⟩ := hB
  rw [ht] at hP1
  exact kk H1 locs1 ⟨hP1, hD1.weaken (fun _ q _ h => hfr q.1 h), hS⟩
theorem z_callTS (C : zCx p s m args meth c cc nL own ret2 D ad cA A) (P : zP D sh ad cA A S s H locs) {r : Int32} {S' : Zs} (hM : zMt ty l y bytes maxL fr lo D sh ad cA S As (r, S')) (hw : zWS own index y bytes maxL (some ty) n) (hn : As.length = n) (hroom : fr + 1 ≤ R.frames ∧ 8 + (maxL + 11) + lo ≤ R.locals) (hl : ls.size = nL) (hst : st0 = As.reverse ++ rest) (hcat : (rest.map fun v => v.category).sum ≤ 8) (hdg : decode cc pc = .ok (.invokestatic index, 3)) (hf : cells ≤ R.cells ∧ slots ≤ R.slots)
    (kk : ∀ (H1 : Heap) (locs1 : List Loc), zP D sh ad cA A S' s H1 locs1 → W p l e R s m args below meth c H1 locs1 cells slots Q (F0 m (pc + 3) ls (.int r :: rest))) : W p l e R s m args below meth c H locs cells slots Q (F0 m pc ls st0) := by
  have hfr := zA_free P.2.1 P.2.2 C.2.2.2.2.2.2.1
  refine va_calli (z_runS (Qc := fun A => zQi D sh ad cA A (r, S')) C P hM hw hn hroom hl hst hcat hdg hf) P.2.2 (fun q _ h => hfr q h) hfr (fun r1 S1 t H1 locs1 ht hvm hp hB hz1 hk1 hS => ?_)
  obtain ⟨rfl, rfl⟩ := hp
  obtain ⟨hP1, hK1, hD1⟩ := hB
  rw [ht] at hP1
  exact kk H1 locs1 ⟨hP1, hD1.weaken (fun _ q _ h => hfr q.1 h), hS⟩
end ZT
theorem zt_w335 : zWV RJ0 335 RJ0 yJ0_coder_7d493 cJ0_coder_7d493 1 (some .byte) 0 := ⟨zt_m335, zt_coder_i, zt_coder_s, zt_nRJ0, zt_coder_c, by decide +kernel⟩
theorem zt_w492 : zWV RJ0 492 RJ0 yJ0_isLatin1_aae02 cJ0_isLatin1_aae02 1 (some .boolean) 0 := ⟨zt_m492, zt_isL_i, zt_isL_s, zt_nRJ0, zt_isL_c, by decide +kernel⟩
theorem zt_w495 : zWS RJ0 495 yJ1_charAt_3b067 cJ1_charAt_3b067 2 (some .char) 2 := ⟨zt_m495, zt_lch_t, zt_nRJ1, zt_lch_c, by decide +kernel⟩
theorem zt_w1059 : zWS RJ0 1059 yJ3_checkIndex_8e157 cJ3_checkIndex_8e157 3 (some .int) 3 := ⟨zt_m1059, zt_pci_t, zt_nRJ3, zt_pci_c, by decide +kernel⟩
theorem zt_w9 : zWS RJ1 9 yJ0_checkIndex_df160 cJ0_checkIndex_df160 2 none 2 := ⟨zt_m9, zt_sci_t, zt_nRJ0, zt_sci_c, by decide +kernel⟩
section ZTM
variable {l : Launch} {D : va_G} {cA : Nat → ClassId} {ad : Nat → Nat} {sh : List Zc} {S : Zs}
theorem mT_coder {i : Nat} (hi : i < 2) : zMt .byte l yJ0_coder_7d493 cJ0_coder_7d493 1 0 0 D sh ad cA S [.ref (ad (1000 + i))] (0, S) := by
  refine z_enter (Qc := fun A => zQi D sh ad cA A (0, S)) (by decide +kernel) (Nat.le_of_ble_eq_true rfl) (fun p e s m below meth c A C P ls hl => ?_)
  have hx := C.1
  have hb := C.2.1
  have hl : lv_has ls 1 [(0, .ref (ad (1000 + i)))] := hl
  have hT := (C.2.2.2.2.2.2.2.2.2.2.2.2.2.2.1.1).1 i hi
  refine va_gets hx hb C.2.2.2.2.2.2.2.2.2.2.2.2.1 P.2.2 C.2.2.2.1 (C.2.2.2.2.1 _ zt_fcs) (fun _ h9 => h9) dJ0_coder_7d493_0 ?_
  refine lv_if_eq (tgt := 13) hx hb dJ0_coder_7d493_3 (by decide) (fun q => absurd q (by decide)) (fun _ => ?_)
  refine lv_aload_n hx hb dJ0_coder_7d493_6 rfl (lv_at hl 0 rfl) ?_
  refine vk_getf hx hb hT.2.1 P.2.2 C.2.2.2.1 (C.2.2.2.2.1 _ zt_fco) (fun _ h9 => h9) dJ0_coder_7d493_7 ?_
  refine lv_goto (tgt := 14) hx hb dJ0_coder_7d493_10 (by decide) ?_
  exact z_tret C P rfl (by decide) dJ0_coder_7d493_14
theorem mT_isLatin1 {i : Nat} (hi : i < 2) : zMt .boolean l yJ0_isLatin1_aae02 cJ0_isLatin1_aae02 1 0 0 D sh ad cA S [.ref (ad (1000 + i))] (1, S) := by
  refine z_enter (Qc := fun A => zQi D sh ad cA A (1, S)) (by decide +kernel) (Nat.le_of_ble_eq_true rfl) (fun p e s m below meth c A C P ls hl => ?_)
  have hx := C.1
  have hb := C.2.1
  have hl : lv_has ls 1 [(0, .ref (ad (1000 + i)))] := hl
  have hT := (C.2.2.2.2.2.2.2.2.2.2.2.2.2.2.1.1).1 i hi
  refine va_gets hx hb C.2.2.2.2.2.2.2.2.2.2.2.2.1 P.2.2 C.2.2.2.1 (C.2.2.2.2.1 _ zt_fcs) (fun _ h9 => h9) dJ0_isLatin1_aae02_0 ?_
  refine lv_if_eq (tgt := 17) hx hb dJ0_isLatin1_aae02_3 (by decide) (fun q => absurd q (by decide)) (fun _ => ?_)
  refine lv_aload_n hx hb dJ0_isLatin1_aae02_6 rfl (lv_at hl 0 rfl) ?_
  refine vk_getf hx hb hT.2.1 P.2.2 C.2.2.2.1 (C.2.2.2.2.1 _ zt_fco) (fun _ h9 => h9) dJ0_isLatin1_aae02_7 ?_
  refine lv_if_ne (tgt := 17) hx hb dJ0_isLatin1_aae02_10 (by decide) (fun q => absurd rfl q) (fun _ => ?_)
  refine lv_iconst (v := 1) hx hb dJ0_isLatin1_aae02_13 (by decide) ?_
  refine lv_goto (tgt := 18) hx hb dJ0_isLatin1_aae02_14 (by decide) ?_
  exact z_tret C P rfl (by decide) dJ0_isLatin1_aae02_18
theorem mT_length {i : Nat} (hi : i < 2) : zMt .int l yJ0_length_8abf5 cJ0_length_8abf5 1 1 30 D sh ad cA S [.ref (ad (1000 + i))] (4, S) := by
  refine z_enter (Qc := fun A => zQi D sh ad cA A (4, S)) (by decide +kernel) (Nat.le_of_ble_eq_true rfl) (fun p e s m below meth c A C P ls hl => ?_)
  have hx := C.1
  have hb := C.2.1
  have hl : lv_has ls 1 [(0, .ref (ad (1000 + i)))] := hl
  have hT := (C.2.2.2.2.2.2.2.2.2.2.2.2.2.2.1.1).1 i hi
  refine lv_aload_n hx hb dJ0_length_8abf5_0 rfl (lv_at hl 0 rfl) ?_
  refine vk_getf hx hb hT.2.2.1 P.2.2 C.2.2.2.1 (C.2.2.2.2.1 _ zt_fva) (fun _ h9 => h9) dJ0_length_8abf5_1 ?_
  refine va_tlen hx hb hT.2.2.2 P.2.2 (v := 4) (by rcases (show i = 0 ∨ i = 1 by omega) with rfl | rfl <;> decide) dJ0_length_8abf5_4 ?_
  refine lv_aload_n hx hb dJ0_length_8abf5_5 rfl (lv_at hl 0 rfl) ?_
  refine z_callTV C P (As := []) (q := 1000 + i) (by unfold zT; omega) (mT_coder hi) zt_w335 rfl (by decide) hl.1 rfl (Nat.le_of_ble_eq_true rfl) dJ0_length_8abf5_6 ⟨Nat.zero_le _, Nat.zero_le _⟩ (fun H locs P => ?_)
  refine lv_ishr hx hb dJ0_length_8abf5_9 ?_
  exact z_tret C P rfl rfl dJ0_length_8abf5_10
theorem mT_pci {x0 x1 : Int32} {r : Option Nat} (h0 : ¬ x0 < 0) (h1 : x0 < x1) : zMt .int l yJ3_checkIndex_8e157 cJ3_checkIndex_8e157 3 0 0 D sh ad cA S [.int x0, .int x1, va_rf r] (x0, S) := by
  refine z_enter (Qc := fun A => zQi D sh ad cA A (x0, S)) (by decide +kernel) (by cases r <;> exact Nat.le_of_ble_eq_true rfl) (fun p e s m below meth c A C P ls hl => ?_)
  have hx := C.1
  have hb := C.2.1
  have hl : lv_has ls 3 [(0, .int x0), (1, .int x1)] := by
    cases r with
    | none => exact lv_sub hl [0, 1] rfl
    | some a => exact lv_sub hl [0, 1] rfl
  refine lv_iload_n hx hb dJ3_checkIndex_8e157_0 rfl (lv_at hl 0 rfl) ?_
  refine lv_if_lt (tgt := 9) hx hb dJ3_checkIndex_8e157_1 (by decide) (fun q => absurd q h0) (fun _ => ?_)
  refine lv_iload_n hx hb dJ3_checkIndex_8e157_4 rfl (lv_at hl 0 rfl) ?_
  refine lv_iload_n hx hb dJ3_checkIndex_8e157_5 rfl (lv_at hl 1 rfl) ?_
  refine lv_icmp_lt (tgt := 16) hx hb dJ3_checkIndex_8e157_6 (by decide) (fun _ => ?_) (fun q => absurd h1 q)
  refine lv_iload_n hx hb dJ3_checkIndex_8e157_16 rfl (lv_at hl 0 rfl) ?_
  exact z_tret C P rfl rfl dJ3_checkIndex_8e157_17
theorem mT_sci {x0 x1 : Int32} (h0 : ¬ x0 < 0) (h1 : x0 < x1) : zMv l yJ0_checkIndex_df160 cJ0_checkIndex_df160 2 1 30 D sh ad cA S [.int x0, .int x1] S := by
  refine z_enter (Qc := fun A => zQv D sh ad cA A S) (by decide +kernel) (Nat.le_of_ble_eq_true rfl) (fun p e s m below meth c A C P ls hl => ?_)
  have hx := C.1
  have hb := C.2.1
  have hl : lv_has ls 2 [(0, .int x0), (1, .int x1)] := hl
  obtain ⟨r, hr⟩ := C.2.2.2.2.2.2.2.2.2.2.2.2.2.1
  refine lv_iload_n hx hb dJ0_checkIndex_df160_0 rfl (lv_at hl 0 rfl) ?_
  refine lv_iload_n hx hb dJ0_checkIndex_df160_1 rfl (lv_at hl 1 rfl) ?_
  refine va_gets hx hb hr P.2.2 C.2.2.2.1 (C.2.2.2.2.1 _ zt_fsi) (fun _ h9 => h9) dJ0_checkIndex_df160_2 ?_
  refine z_callTS C P (As := [.int x0, .int x1, va_rf r]) (mT_pci h0 h1) zt_w1059 rfl (by decide) hl.1 rfl (Nat.le_of_ble_eq_true rfl) dJ0_checkIndex_df160_5 ⟨Nat.zero_le _, Nat.zero_le _⟩ (fun H locs P => ?_)
  refine lv_pop hx hb dJ0_checkIndex_df160_8 rfl ?_
  exact z_vret C P rfl dJ0_checkIndex_df160_9
theorem zt_cases {i : Nat} (hi : i < 2) {x : Int32} (hx : inb x 4 = true) : ∃ j, j < 4 ∧ x = nI j := by
  obtain ⟨j, hj, e⟩ := vp_in_of (z_in hx) (by decide)
  exact ⟨j, hj, e⟩
theorem mT_lch {i : Nat} (hi : i < 2) {x : Int32} (hin : inb x 4 = true) : zMt .char l yJ1_charAt_3b067 cJ1_charAt_3b067 2 2 60 D sh ad cA S [.ref (ad (1010 + i)), .int x] (fT_ch (1000 + i) x, S) := by
  refine z_enter (Qc := fun A => zQi D sh ad cA A (fT_ch (1000 + i) x, S)) (by decide +kernel) (Nat.le_of_ble_eq_true rfl) (fun p e s m below meth c A C P ls hl => ?_)
  have hx := C.1
  have hb := C.2.1
  have hl : lv_has ls 2 [(0, .ref (ad (1010 + i))), (1, .int x)] := hl
  have hT := (C.2.2.2.2.2.2.2.2.2.2.2.2.2.2.1.1).1 i hi
  have h4 : ([4, 4] : List Nat).getD i 0 = 4 := by rcases (show i = 0 ∨ i = 1 by omega) with rfl | rfl <;> rfl
  have hT4 := hT.2.2.2
  rw [h4] at hT4
  obtain ⟨j, hj, ej⟩ := zt_cases hi hin
  refine lv_iload_n hx hb dJ1_charAt_3b067_0 rfl (lv_at hl 1 rfl) ?_
  refine lv_aload_n hx hb dJ1_charAt_3b067_1 rfl (lv_at hl 0 rfl) ?_
  refine va_tlen hx hb hT4 P.2.2 (v := 4) (by decide) dJ1_charAt_3b067_2 ?_
  refine z_callSv C P (As := [.int x, .int 4]) (mT_sci (by rw [ej]; exact nI_pos (by omega)) (by rw [ej]; exact nI_lt (b := 4) hj (by decide))) zt_w9 rfl (by decide) hl.1 rfl (Nat.le_of_ble_eq_true rfl) dJ1_charAt_3b067_3 ⟨Nat.zero_le _, Nat.zero_le _⟩ (fun H locs P => ?_)
  refine lv_aload_n hx hb dJ1_charAt_3b067_6 rfl (lv_at hl 0 rfl) ?_
  refine lv_iload_n hx hb dJ1_charAt_3b067_7 rfl (lv_at hl 1 rfl) ?_
  refine va_tb hx hb hT4 P.2.2 (z_in hin) rfl dJ1_charAt_3b067_8 ?_
  refine lv_sipush (v := 255) hx hb dJ1_charAt_3b067_9 (by decide) ?_
  refine lv_iand hx hb dJ1_charAt_3b067_12 ?_
  refine lv_i2c (v := fT_ch (1000 + i) x) hx hb dJ1_charAt_3b067_13 (by subst ej; rcases (show i = 0 ∨ i = 1 by omega) with rfl | rfl <;> rcases (show j = 0 ∨ j = 1 ∨ j = 2 ∨ j = 3 by omega) with rfl | rfl | rfl | rfl <;> decide) ?_
  exact z_tret C P rfl (by subst ej; rcases (show i = 0 ∨ i = 1 by omega) with rfl | rfl <;> rcases (show j = 0 ∨ j = 1 ∨ j = 2 ∨ j = 3 by omega) with rfl | rfl | rfl | rfl <;> decide) dJ1_charAt_3b067_14
theorem mT_charAt {i : Nat} (hi : i < 2) {x : Int32} (hin : inb x 4 = true) : zMt .char l yJ0_charAt_5068e cJ0_charAt_5068e 2 3 90 D sh ad cA S [.ref (ad (1000 + i)), .int x] (fT_ch (1000 + i) x, S) := by
  refine z_enter (Qc := fun A => zQi D sh ad cA A (fT_ch (1000 + i) x, S)) (by decide +kernel) (Nat.le_of_ble_eq_true rfl) (fun p e s m below meth c A C P ls hl => ?_)
  have hx := C.1
  have hb := C.2.1
  have hl : lv_has ls 2 [(0, .ref (ad (1000 + i))), (1, .int x)] := hl
  have hT := (C.2.2.2.2.2.2.2.2.2.2.2.2.2.2.1.1).1 i hi
  obtain ⟨j, hj, ej⟩ := zt_cases hi hin
  refine lv_aload_n hx hb dJ0_charAt_5068e_0 rfl (lv_at hl 0 rfl) ?_
  refine z_callTV C P (As := []) (q := 1000 + i) (by unfold zT; omega) (mT_isLatin1 hi) zt_w492 rfl (by decide) hl.1 rfl (Nat.le_of_ble_eq_true rfl) dJ0_charAt_5068e_1 ⟨Nat.zero_le _, Nat.zero_le _⟩ (fun H locs P => ?_)
  refine lv_if_eq (tgt := 16) hx hb dJ0_charAt_5068e_4 (by decide) (fun q => absurd q (by decide)) (fun _ => ?_)
  refine lv_aload_n hx hb dJ0_charAt_5068e_7 rfl (lv_at hl 0 rfl) ?_
  refine vk_getf hx hb hT.2.2.1 P.2.2 C.2.2.2.1 (C.2.2.2.2.1 _ zt_fva) (fun _ h9 => h9) dJ0_charAt_5068e_8 ?_
  refine lv_iload_n hx hb dJ0_charAt_5068e_11 rfl (lv_at hl 1 rfl) ?_
  refine z_callTS C P (As := [.ref (ad (1010 + i)), .int x]) (mT_lch hi hin) zt_w495 rfl (by decide) hl.1 rfl (Nat.le_of_ble_eq_true rfl) dJ0_charAt_5068e_12 ⟨Nat.zero_le _, Nat.zero_le _⟩ (fun H locs P => ?_)
  exact z_tret C P rfl (by subst ej; rcases (show i = 0 ∨ i = 1 by omega) with rfl | rfl <;> rcases (show j = 0 ∨ j = 1 ∨ j = 2 ∨ j = 3 by omega) with rfl | rfl | rfl | rfl <;> decide) dJ0_charAt_5068e_15
end ZTM
section ZTR
variable {p : Program} {l : Launch} {e : Env} {R : Room} {s : State} {m : MethodId} {args : Array Value} {below : List Frame} {meth : Method} {c : Code} {H : Heap} {locs : List Loc} {cells slots : Nat} {Q : State → Prop}
variable {cc : ByteArray} {nL pc index : Nat} {ret : Option FieldType} {D : va_G} {cA : Nat → ClassId} {A : Nat → Prop} {ls : Array Slot} {rest : List Value} {sh : List Zc} {ad : Nat → Nat} {S : Zs}
theorem z_strlen (C : zCx p s m args meth c cc nL RX3 ret D ad cA A) (P : zP D sh ad cA A S s H locs) {q : Nat} (hq : zT q) (hw : Cond.methodLink RX3 index yJ0_length_8abf5 ∈ ztb) (hR : 2 ≤ R.frames ∧ 50 ≤ R.locals) (hl : ls.size = nL) (hcat : (rest.map fun v => v.category).sum ≤ 8) (hdg : decode cc pc = .ok (.invokevirtual index, 3)) (hf : cells ≤ R.cells ∧ slots ≤ R.slots)
    (kk : ∀ (H1 : Heap) (locs1 : List Loc), zP D sh ad cA A S s H1 locs1 → W p l e R s m args below meth c H1 locs1 cells slots Q (F0 m (pc + 3) ls (.int 4 :: rest))) : W p l e R s m args below meth c H locs cells slots Q (F0 m pc ls (.ref (ad q) :: rest)) := by
  obtain ⟨i, hi, rfl⟩ := zT_i hq
  exact z_callTV C P (As := []) hq (mT_length hi) ⟨hw, zt_len_i, zt_len_s, zt_nRJ0, zt_len_c, by decide +kernel⟩ rfl ⟨by omega, by omega⟩ hl rfl hcat hdg hf kk
theorem z_strch (C : zCx p s m args meth c cc nL RX3 ret D ad cA A) (P : zP D sh ad cA A S s H locs) {q : Nat} (hq : zT q) (hw : Cond.methodLink RX3 index yJ0_charAt_5068e ∈ ztb) (hR : 4 ≤ R.frames ∧ 111 ≤ R.locals) (hl : ls.size = nL) (hcat : (rest.map fun v => v.category).sum ≤ 8) (hdg : decode cc pc = .ok (.invokevirtual index, 3)) (hf : cells ≤ R.cells ∧ slots ≤ R.slots) {x : Int32} {β : Type} {z : β} {X : Option β} (h : (if inb x 4 = true then X else none) = some z)
    (kk : ∀ (H1 : Heap) (locs1 : List Loc), X = some z → zP D sh ad cA A S s H1 locs1 → W p l e R s m args below meth c H1 locs1 cells slots Q (F0 m (pc + 3) ls (.int (fT_ch q x) :: rest))) : W p l e R s m args below meth c H locs cells slots Q (F0 m pc ls (.int x :: .ref (ad q) :: rest)) := by
  obtain ⟨i, hi, rfl⟩ := zT_i hq
  by_cases hin : inb x 4 = true
  · rw [if_pos hin] at h
    exact z_callTV C P (n := 1) (As := [.int x]) hq (mT_charAt hi hin) ⟨hw, zt_ch_i, zt_ch_s, zt_nRJ0, zt_ch_c, by decide +kernel⟩ rfl ⟨by omega, by omega⟩ hl rfl hcat hdg hf (fun H1 locs1 P1 => kk H1 locs1 h P1)
  · rw [if_neg hin] at h
    cases h
end ZTR
