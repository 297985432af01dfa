theorem zsl6 : Cond.methodLink R_law 9 yX6_init ∈ ztb := zmem 92 (by decide +kernel) (by decide +kernel)
theorem zsi6 : Cond.instanceMethod yX6_init ∈ ztb := zmem 93 (by decide +kernel) (by decide +kernel)
theorem zsc6 : Cond.code yX6_init cX6_init 1 none ∈ ztb := zmem 94 (by decide +kernel) (by decide +kernel)
theorem zscl6 : Cond.classLink R_law 7 RX6 ∈ ztb := zmem 90 (by decide +kernel) (by decide +kernel)
theorem zsl7 : Cond.methodLink R_law 12 yX7_init ∈ ztb := zmem 785 (by decide +kernel) (by decide +kernel)
theorem zsi7 : Cond.instanceMethod yX7_init ∈ ztb := zmem 786 (by decide +kernel) (by decide +kernel)
theorem zsc7 : Cond.code yX7_init cX7_init 1 none ∈ ztb := zmem 787 (by decide +kernel) (by decide +kernel)
theorem zscl7 : Cond.classLink R_law 10 RX7 ∈ ztb := zmem 783 (by decide +kernel) (by decide +kernel)
theorem zsn0 : Cond.instantiable RX0 9 ∈ ztb := zmem 172 (by decide +kernel) (by decide +kernel)
theorem zsn1 : Cond.instantiable RX1 3 ∈ ztb := zmem 166 (by decide +kernel) (by decide +kernel)
theorem zsn2 : Cond.instantiable RX2 3 ∈ ztb := zmem 99 (by decide +kernel) (by decide +kernel)
theorem zsn3 : Cond.instantiable RX3 8 ∈ ztb := zmem 118 (by decide +kernel) (by decide +kernel)
theorem zsn4 : Cond.instantiable RX4 2 ∈ ztb := zmem 153 (by decide +kernel) (by decide +kernel)
theorem zsn5 : Cond.instantiable RX5 7 ∈ ztb := zmem 224 (by decide +kernel) (by decide +kernel)
theorem zsn6 : Cond.instantiable RX6 12 ∈ ztb := zmem 91 (by decide +kernel) (by decide +kernel)
theorem zsn7 : Cond.instantiable RX7 37 ∈ ztb := zmem 784 (by decide +kernel) (by decide +kernel)
theorem zst_r : Cond.laysStatic "LandGoods" "RINGS" "[I" ∈ lw_tbl := List.mem_of_getElem? (i := 652) (by decide +kernel)
theorem zst_s : Cond.laysStatic "LandGoods" "SIZE_BODIES" "[I" ∈ lw_tbl := List.mem_of_getElem? (i := 735) (by decide +kernel)
theorem zst_m : Cond.laysStatic "LandGoods" "MARK_BODIES" "[I" ∈ lw_tbl := List.mem_of_getElem? (i := 749) (by decide +kernel)
theorem zst_c : Cond.laysStatic "java/lang/String" "COMPACT_STRINGS" "Z" ∈ lw_tbl := List.mem_of_getElem? (i := 419) (by decide +kernel)
theorem zst_f : Cond.laysStatic "jdk/internal/util/Preconditions" "SIOOBE_FORMATTER" "Ljava/util/function/BiFunction;" ∈ lw_tbl := List.mem_of_getElem? (i := 435) (by decide +kernel)
theorem zst_g : Cond.stringRef "LandGoods$Tape" 90 "good" ∈ lw_tbl := List.mem_of_getElem? (i := 405) (by decide +kernel)
theorem zst_l : Cond.stringRef "LandGoods$Tape" 96 "land" ∈ lw_tbl := List.mem_of_getElem? (i := 458) (by decide +kernel)
theorem zst_n : Cond.methodLinkNest "LandGoods$Rest" 95 ⟨"LandGoods", "commonDivisor", "(JJ)J"⟩ "LandGoods" ∈ lw_tbl := List.mem_of_getElem? (i := 565) (by decide +kernel)
theorem zst_a : Cond.arrayOver (.array .int) ∈ lw_tbl := List.mem_of_getElem? (i := 105) (by decide +kernel)
theorem zst_i0 : Cond.initialized "LandGoods" ∈ lw_tbl := List.mem_of_getElem? (i := 75) (by decide +kernel)
theorem zst_i1 : Cond.initialized "java/lang/String" ∈ lw_tbl := List.mem_of_getElem? (i := 84) (by decide +kernel)
theorem zst_i2 : Cond.initialized "jdk/internal/util/Preconditions" ∈ lw_tbl := List.mem_of_getElem? (i := 86) (by decide +kernel)
section ZSF
variable {p : Program} {l : Launch} {e : Env} {R : Room} {s : State} {m : MethodId} {args : Array Value} {below : List Frame} {meth : Method} {c : Code} {H : Heap} {locs : List Loc} {cells slots : Nat} {Q : State → Prop}
variable {cc bytes : ByteArray} {nL pc maxL fr lo mc ms : Nat} {own : String} {ret : Option FieldType} {D : va_G} {cA : Nat → ClassId} {A : Nat → Prop} {ls : Array Slot} {rest : List Value} {sh sh' : List Zc} {ad : Nat → Nat} {S S' : Zs} {index : Nat} {y : MethodName}
theorem zk_newF (C : zCx p s m args meth c cc nL own ret D ad cA A) (P : zP D sh ad cA A S s H locs) (hz : H.size = ad sh.length) (had : ad (sh.length + 1) = ad sh.length + 1) {ci N : Nat} {Cn : String} {T : u_T} (hc : zcl[ci]? = some (Cn, T, N)) (hin : ∀ w ∈ u_ws Cn T N, w ∈ ztb) (ty : Nat → FieldType) (hty : ∀ k, k < N → parseFieldDescriptor (T k).2.2.1 = some (ty k)) (hcl : Cond.classLink own index Cn ∈ ztb) (hinst : Cond.instantiable Cn N ∈ ztb) (hini : Cond.initialized Cn ∈ ztb) (ks : List Zf) (hks : ∀ j, j < N → defaultValue (ty j) = vp_V (ks.mapIdx (fun j f => zfv ad (zClr S sh.length) sh.length j f)) j) (hcells : cells + 1 ≤ R.cells) (hslots : slots + N ≤ R.slots) (hdg : decode cc pc = .ok (.new index, 3))
    (kk : ∀ H1 : Heap, (∀ q, q < H.size → H1[q]? = H[q]?) → H1.size = ad (sh ++ ([.inl (ci, ks)] : List Zc)).length → zP D (sh ++ ([.inl (ci, ks)] : List Zc)) ad cA A (zClr S sh.length) s H1 locs → W p l e R s m args below meth c H1 locs (cells + 1) (slots + N) Q (F0 m (pc + 3) ls (.ref (ad sh.length) :: rest))) : W p l e R s m args below meth c H locs cells slots Q (F0 m pc ls rest) := by
  obtain ⟨hx, hb, hml, hown, hts, hK, hA, -⟩ := C
  have hKn := hK.1 ci _ hc
  refine W.newcK hx hb hown (hts _ hcl) (hts _ hinst) (hts _ hini) rfl hdg hcells hslots hKn.2.1 hz fun H1 kC hkC e1 z1 o1 => ?_
  have hk : ∀ (k : Nat) (x : Nat × va_E), (zw sh ad cA S)[k]? = some x → H1[x.1]? = H[x.1]? := fun k x hx => o1 x.1 (by have := (P.1 k x hx).lt; omega)
  refine kk H1 (fun q hq => o1 q (by omega)) (by rw [z1, List.length_append]; exact had.symm) ⟨?_, ?_, ?_⟩
  · rw [zw_push, zw_clr (Nat.le_refl _)]
    refine (P.1.kept hk).app (fun k x hx => ?_)
    have hz1 : k < 1 := (List.getElem?_eq_some_iff.mp hx).1
    rw [show k = 0 by omega] at hx
    cases hx
    exact ⟨_, hc, (u_born ty hts hin hKn hkC e1 hty).to hks⟩
  · rw [zw_push, zw_clr (Nat.le_refl _)]
    exact P.2.1.push P.1 hz.symm (hA _ (by rw [← hz]; exact P.2.2.1))
  · exact ⟨Nat.le_trans P.2.2.1 (by omega), fun x h1 h2 => (o1 x (by have := P.2.2.1; omega)).trans (P.2.2.2.1 x h1 h2), P.2.2.2.2⟩
theorem zk_callF (C : zCx p s m args meth c cc nL own ret D ad cA A) (P : zP D sh ad cA A S s H locs) (hz : H.size = ad sh.length) {o : Nat} (hM : zMk l y bytes maxL fr lo mc ms D ad cA sh sh' S S' [.ref (ad o)]) (w1 : Cond.methodLink own index y ∈ ztb) (w2 : Cond.instanceMethod y ∈ ztb) (w3 : Cond.initialized y.cls ∈ ztb) (w4 : Cond.code y bytes maxL none ∈ ztb) (w5 : y.name = "<init>") (w6 : y.cls ≠ "java/lang/invoke/MethodHandle" ∧ y.cls ≠ "java/lang/invoke/VarHandle" ∧ (parseMethodDescriptor y.desc).map (fun d => d.parameters.length) = some 0) (hroom : fr + 1 ≤ R.frames ∧ 8 + (maxL + 11) + lo ≤ R.locals) (hl : ls.size = nL) (hcat : (rest.map fun v => v.category).sum ≤ 8) (hdg : decode cc pc = .ok (.invokespecial index, 3)) (hf : cells + mc ≤ R.cells ∧ slots + ms ≤ R.slots)
    (kk : ∀ (H1 : Heap) (locs1 : List Loc), (∀ q : Nat, q < H.size → ¬ zA sh ad cA S H.size q → H1[q]? = H[q]?) → H1.size = ad sh'.length → zP D sh' ad cA A S' s H1 locs1 → W p l e R s m args below meth c H1 locs1 (cells + mc) (slots + ms) Q (F0 m (pc + 3) ls rest)) : W p l e R s m args below meth c H locs cells slots Q (F0 m pc ls (.ref (ad o) :: rest)) := by
  have hfr := zA_free P.2.1 P.2.2 C.2.2.2.2.2.2.1
  obtain ⟨hx, hb, hml, hown, hts, hK, hA, -, -, hSx⟩ := C
  have hg : GoodIn ztb (.code y bytes maxL none :: ztb) := zGood (fun w h => by
    rcases List.mem_cons.mp h with rfl | h
    · exact w4
    · exact h)
  refine va_callv (va_runI (As := []) (rest := rest) ⟨hx, hb, hml, hown, hts⟩ (hM H.size hz) (cwI 0 hts hg rfl rfl rfl (hts _ w3) (hts _ w1) (hts _ w2) w5 w6 hroom) ⟨zPc_blind, fun U hU hW => ⟨rfl, by rw [hU], by rw [hU]; exact P.1, va_K.moved hW.alike hK, P.2.1.weaken (fun _ _ _ _ => trivial), hSx.pass P.2.2 hU hW hfr⟩⟩ rfl rfl hl rfl (lv_room hcat) hdg hf) P.2.2 (fun q _ h => hfr q h) hfr (fun u t H1 locs1 ht hvm hp hB hz1 hk1 hS => ?_)
  obtain ⟨hz2, hP1, hK1, hD1⟩ := hB
  rw [ht] at hP1 hz2
  exact kk H1 locs1 hk1 hz2 ⟨hP1, hD1.weaken (fun _ q _ h => hfr q.1 h), hS⟩
end ZSF
abbrev st_f6 : List Zf := [.inl 2, .inl 2, .inl 2, .inl 2, .inl 2, .inl 2, .inl 2, .inl 2, .inl 2, .inl 2, .inl 0, .inl 0]
abbrev st_f7 : List Zf := [.inl 0, .inl 0, .inl 2, .inl 2, .inl 2, .inl 0, .inl 0, .inl 2, .inl 2, .inl 2, .inl 0, .inl 0, .inl 2, .inl 2, .inl 2, .inl 2, .inl 0, .inl 0, .inl 0, .inl 0, .inl 0, .inl 0, .inl 0, .inl 0, .inl 0, .inl 0, .inl 2, .inl 2, .inl 2, .inl 0, .inl 2, .inl 1, .inl 1, .inl 2, .inl 2, .inl 2, .inl 0]
theorem st_ks6 (ad : Nat → Nat) (S : Zs) : ∀ j, j < 12 → defaultValue (tyX6 j) = vp_V (st_f6.mapIdx (fun j f => zfv ad (zClr S 0) 0 j f)) j := by
  intro j hj
  unfold vp_V
  rw [List.getD_eq_getElem?_getD, List.getElem?_mapIdx]
  exact (match j, hj with
  | 0, _ => rfl
  | 1, _ => rfl
  | 2, _ => rfl
  | 3, _ => rfl
  | 4, _ => rfl
  | 5, _ => rfl
  | 6, _ => rfl
  | 7, _ => rfl
  | 8, _ => rfl
  | 9, _ => rfl
  | 10, _ => rfl
  | 11, _ => rfl
  | n + 12, h => absurd h (by omega))
theorem st_ks7 (ad : Nat → Nat) (S : Zs) : ∀ j, j < 37 → defaultValue (tyX7 j) = vp_V (st_f7.mapIdx (fun j f => zfv ad (zClr S 0) 0 j f)) j := by
  intro j hj
  unfold vp_V
  rw [List.getD_eq_getElem?_getD, List.getElem?_mapIdx]
  exact (match j, hj with
  | 0, _ => rfl
  | 1, _ => rfl
  | 2, _ => rfl
  | 3, _ => rfl
  | 4, _ => rfl
  | 5, _ => rfl
  | 6, _ => rfl
  | 7, _ => rfl
  | 8, _ => rfl
  | 9, _ => rfl
  | 10, _ => rfl
  | 11, _ => rfl
  | 12, _ => rfl
  | 13, _ => rfl
  | 14, _ => rfl
  | 15, _ => rfl
  | 16, _ => rfl
  | 17, _ => rfl
  | 18, _ => rfl
  | 19, _ => rfl
  | 20, _ => rfl
  | 21, _ => rfl
  | 22, _ => rfl
  | 23, _ => rfl
  | 24, _ => rfl
  | 25, _ => rfl
  | 26, _ => rfl
  | 27, _ => rfl
  | 28, _ => rfl
  | 29, _ => rfl
  | 30, _ => rfl
  | 31, _ => rfl
  | 32, _ => rfl
  | 33, _ => rfl
  | 34, _ => rfl
  | 35, _ => rfl
  | 36, _ => rfl
  | n + 37, h => absurd h (by omega))
theorem st_tab {args : Array Value} {s : State} {A : Nat → Prop} (hA : ∀ a : Nat, a < s.heap.size → ¬ A a) {nm : String} {N : Nat} {xs : List Int32} (hN : N < 2 ^ 31) (harr : (Cond.arrayOf (.static "LandGoods" nm "[I") .int).before args s = true) (hlen : (Cond.eq (.length (.static "LandGoods" nm "[I")) (.int (Int32.ofNat N))).before args s = true) (hel : ∀ j, j < N → (Cond.eq (.elem (.static "LandGoods" nm "[I") (.int (Int32.ofNat j))) (.int (xs.getD j 0))).before args s = true) (hl : (Cond.laysStatic "LandGoods" nm "[I").before args s = true) (hini : (Cond.initialized "LandGoods").before args s = true) : zTab nm N xs A s s.heap := by
  obtain ⟨t, ht, hT⟩ := va_Tof (tm := .static "LandGoods" nm "[I") (f := fun j => .int (xs.getD j 0)) hN harr (va_eqt hlen) (fun j hj => va_eqt (hel j hj)) hA
  exact ⟨t, va_Zref hl hini ht hA, hT⟩
def st_tm (i : Nat) : Term := if i = 0 then .string "LandGoods$Tape" 90 else .string "LandGoods$Tape" 96
def st_ad (h : Nat) (adK adV : Nat → Nat) : Nat → Nat := fun k => if k < 1000 then h + k else if k < 1010 then adK (k - 1000) else adV (k - 1010)
theorem st_adA (h : Nat) (adK adV : Nat → Nat) : zAd h (st_ad h adK adV) := fun k hk => by simp [st_ad, hk]
theorem st_ad0 (h : Nat) (adK adV : Nat → Nat) (i : Nat) (hi : i < 10) : st_ad h adK adV (1000 + i) = adK i := by
  unfold st_ad
  rw [if_neg (by omega), if_pos (by omega)]
  exact congrArg adK (by omega)
theorem st_ad1 (h : Nat) (adK adV : Nat → Nat) (i : Nat) : st_ad h adK adV (1010 + i) = adV i := by
  unfold st_ad
  rw [if_neg (by omega), if_neg (by omega)]
  exact congrArg adV (by omega)
theorem st_sx {args : Array Value} {s : State} (hts : ∀ w ∈ lw_tbl, w.before args s = true) (hsf : ∀ w ∈ flatC (Jvm.Cond.and given_1 narrow_1), w.before args s = true) : ∃ adK adV : Nat → Nat, ∀ h : Nat, zSx (st_ad h adK adV) (fun q : Nat => s.heap.size ≤ q) s s.heap := by
  have hA : ∀ a : Nat, a < s.heap.size → ¬ (fun q : Nat => s.heap.size ≤ q) a := fun a h => Nat.not_le.mpr h
  have t1 : zTab "RINGS" 5 zRings (fun q : Nat => s.heap.size ≤ q) s s.heap := st_tab hA (by decide) (hsf _ (by decide +kernel)) (hsf _ (by decide +kernel)) (fun j hj => by rcases (show j = 0 ∨ j = 1 ∨ j = 2 ∨ j = 3 ∨ j = 4 by omega) with rfl | rfl | rfl | rfl | rfl <;> exact hsf _ (by decide +kernel)) (hts _ zst_r) (hts _ zst_i0)
  have t2 : zTab "SIZE_BODIES" 6 zSizes (fun q : Nat => s.heap.size ≤ q) s s.heap := st_tab hA (by decide) (hsf _ (by decide +kernel)) (hsf _ (by decide +kernel)) (fun j hj => by rcases (show j = 0 ∨ j = 1 ∨ j = 2 ∨ j = 3 ∨ j = 4 ∨ j = 5 by omega) with rfl | rfl | rfl | rfl | rfl | rfl <;> exact hsf _ (by decide +kernel)) (hts _ zst_s) (hts _ zst_i0)
  have t3 : zTab "MARK_BODIES" 6 zMarks (fun q : Nat => s.heap.size ≤ q) s s.heap := st_tab hA (by decide) (hsf _ (by decide +kernel)) (hsf _ (by decide +kernel)) (fun j hj => by rcases (show j = 0 ∨ j = 1 ∨ j = 2 ∨ j = 3 ∨ j = 4 ∨ j = 5 by omega) with rfl | rfl | rfl | rfl | rfl | rfl <;> exact hsf _ (by decide +kernel)) (hts _ zst_m) (hts _ zst_i0)
  have t4 : va_Z "java/lang/String" "COMPACT_STRINGS" "Z" (.int 1) (fun q : Nat => s.heap.size ≤ q) s s.heap := va_Zof (hts _ zst_c) (hts _ zst_i1) (va_eqt (hsf (Cond.eq (.static "java/lang/String" "COMPACT_STRINGS" "Z") (.int 1)) (by decide +kernel))) hA
  have t5 : ∃ r : Option Nat, va_Z "jdk/internal/util/Preconditions" "SIOOBE_FORMATTER" "Ljava/util/function/BiFunction;" (va_rf r) (fun q : Nat => s.heap.size ≤ q) s s.heap := by
    obtain ⟨v, hv, hr⟩ := Cond.isRef_spec (args := args) (first := s) (o := none) (s := s) (idx := []) (hsf (Cond.isRef (.static "jdk/internal/util/Preconditions" "SIOOBE_FORMATTER" "Ljava/util/function/BiFunction;")) (by decide +kernel))
    cases v with
    | ref a => exact ⟨some a, va_Zof (hts _ zst_f) (hts _ zst_i2) hv hA⟩
    | null => exact ⟨none, va_Zof (hts _ zst_f) (hts _ zst_i2) hv hA⟩
    | _ => cases hr
  obtain ⟨adK, adV, hS, hev⟩ := vk_Sof (args := args) (s := s) (N := 2) (tm := st_tm) (len := [4, 4]) (byt := zTexts) (A := fun q : Nat => s.heap.size ≤ q) (fun i hi => by rcases (show i = 0 ∨ i = 1 by omega) with rfl | rfl <;> decide) (fun i hi => by rcases (show i = 0 ∨ i = 1 by omega) with rfl | rfl <;> exact hsf _ (by decide +kernel)) (fun i hi => by rcases (show i = 0 ∨ i = 1 by omega) with rfl | rfl <;> exact hsf _ (by decide +kernel)) (fun i hi => by rcases (show i = 0 ∨ i = 1 by omega) with rfl | rfl <;> exact hsf _ (by decide +kernel)) (fun i hi => by rcases (show i = 0 ∨ i = 1 by omega) with rfl | rfl <;> exact hsf _ (by decide +kernel))
    (fun i hi j hj => by
      have hj : j < 4 := by rcases (show i = 0 ∨ i = 1 by omega) with rfl | rfl <;> exact hj
      rcases (show i = 0 ∨ i = 1 by omega) with rfl | rfl
      · rcases (show j = 0 ∨ j = 1 ∨ j = 2 ∨ j = 3 by omega) with rfl | rfl | rfl | rfl <;> exact hsf _ (by decide +kernel)
      · rcases (show j = 0 ∨ j = 1 ∨ j = 2 ∨ j = 3 by omega) with rfl | rfl | rfl | rfl <;> exact hsf _ (by decide +kernel))
    (fun i j hi hj hne => by
      rcases (show i = 0 ∨ i = 1 by omega) with rfl | rfl
      · rcases (show j = 0 ∨ j = 1 by omega) with rfl | rfl
        · exact absurd rfl hne
        · exact Or.inl (hsf _ (by decide +kernel))
      · rcases (show j = 0 ∨ j = 1 by omega) with rfl | rfl
        · exact Or.inr (hsf _ (by decide +kernel))
        · exact absurd rfl hne) hA
  refine ⟨adK, adV, fun h => ⟨t1, t2, t3, t4, t5, ⟨⟨fun i hi => ?_, fun i j hi hj e => ?_⟩, ?_, ?_⟩, va_Nw.of rfl (hts _ zst_n), va_AOA.of (hts _ zst_a)⟩⟩
  · have q := hS.1 i hi
    simp only [st_ad0 h adK adV i (by omega), st_ad1 h adK adV i]
    exact q
  · simp only [st_ad0 h adK adV i (by omega), st_ad0 h adK adV j (by omega)] at e
    exact hS.2 i j hi hj e
  · rw [show (1000 : Nat) = 1000 + 0 from rfl, st_ad0 h adK adV 0 (by omega)]
    exact vk_R.of (hts _ zst_g) (hev 0 (by decide))
  · rw [show (1001 : Nat) = 1000 + 1 from rfl, st_ad0 h adK adV 1 (by omega)]
    exact vk_R.of (hts _ zst_l) (hev 1 (by decide))
theorem st_K {args : Array Value} {s : State} (hts : ∀ w ∈ lw_tbl, w.before args s = true) : ∃ (D : va_G) (cA : Nat → ClassId), va_K D zcl (ztys cA) s := by
  have htz : ∀ w ∈ ztb, w.before args s = true := fun w hw => hts w (List.mem_filter.mp hw).1
  obtain ⟨c0, iS0, hKn0⟩ := u_known (C := RX0) (T := TX0) (N := 9) (n := 9) htz iX0 (htz _ zsn0)
  obtain ⟨c1, iS1, hKn1⟩ := u_known (C := RX1) (T := TX1) (N := 3) (n := 3) htz iX1 (htz _ zsn1)
  obtain ⟨c2, iS2, hKn2⟩ := u_known (C := RX2) (T := TX2) (N := 3) (n := 3) htz iX2 (htz _ zsn2)
  obtain ⟨c3, iS3, hKn3⟩ := u_known (C := RX3) (T := TX3) (N := 8) (n := 8) htz iX3 (htz _ zsn3)
  obtain ⟨c4, iS4, hKn4⟩ := u_known (C := RX4) (T := TX4) (N := 2) (n := 2) htz iX4 (htz _ zsn4)
  obtain ⟨c5, iS5, hKn5⟩ := u_known (C := RX5) (T := TX5) (N := 7) (n := 7) htz iX5 (htz _ zsn5)
  obtain ⟨c6, iS6, hKn6⟩ := u_known (C := RX6) (T := TX6) (N := 12) (n := 12) htz iX6 (htz _ zsn6)
  obtain ⟨c7, iS7, hKn7⟩ := u_known (C := RX7) (T := TX7) (N := 37) (n := 37) htz iX7 (htz _ zsn7)
  obtain ⟨a0, k0, p0, f0, g0, h0⟩ := Cond.arrayClass_spec (args := args) (first := s) (o := none) (s := s) (idx := []) (htz _ za_int)
  obtain ⟨a1, k1, p1, f1, g1, h1⟩ := Cond.arrayClass_spec (args := args) (first := s) (o := none) (s := s) (idx := []) (htz _ za_long)
  obtain ⟨a2, k2, p2, f2, g2, h2⟩ := Cond.arrayClass_spec (args := args) (first := s) (o := none) (s := s) (idx := []) (htz _ za_byte)
  obtain ⟨p3, a3, k3, -, -, g3, h3, f3⟩ := zk_overA (hts _ zst_a)
  refine ⟨(fun k => match k with | 0 => c0 | 1 => c1 | 2 => c2 | 3 => c3 | 4 => c4 | 5 => c5 | 6 => c6 | _ => c7, fun k => match k with | 0 => iS0 | 1 => iS1 | 2 => iS2 | 3 => iS3 | 4 => iS4 | 5 => iS5 | 6 => iS6 | _ => iS7), fun k => match k with | 0 => a0 | 1 => a1 | 2 => a2 | _ => a3, ?_, ?_⟩
  · intro k q hq
    match k, hq with
    | 0, hq => cases hq; exact hKn0
    | 1, hq => cases hq; exact hKn1
    | 2, hq => cases hq; exact hKn2
    | 3, hq => cases hq; exact hKn3
    | 4, hq => cases hq; exact hKn4
    | 5, hq => cases hq; exact hKn5
    | 6, hq => cases hq; exact hKn6
    | 7, hq => cases hq; exact hKn7
    | k + 8, hq => simp [zcl] at hq
  · intro k q hq
    match k, hq with
    | 0, hq => cases hq; exact ⟨fun N z => ⟨(fun q hq => by cases hq), k0, g0, p0, h0⟩, f0⟩
    | 1, hq => cases hq; exact ⟨fun N z => ⟨(fun q hq => by cases hq), k1, g1, p1, h1⟩, f1⟩
    | 2, hq => cases hq; exact ⟨fun N z => ⟨(fun q hq => by cases hq), k2, g2, p2, h2⟩, f2⟩
    | 3, hq => cases hq; exact ⟨fun N z => ⟨(fun q hq => by cases hq), k3, g3, p3, h3⟩, f3⟩
    | k + 4, hq => simp [ztys] at hq
set_option maxHeartbeats 4000000 in
set_option maxRecDepth 100000 in
theorem start_of {p : Program} {e : Env} {s : State} {m : MethodId} {below : List Frame} {meth : Method} {c : Code} (l : Launch) {b L : Nat} {xs : Nat → Int32} {I : Zs → Zs → Prop} (hsim : zSim I) (hI0 : I zuC zuM) (hL : L ≤ 3072) (C0 : lw_At p s m meth c b L xs) : W p l e room_1 s m #[Value.ref b] below meth c s.heap [] 0 0 (lw_Z below #[Value.ref b] s) (entryFrame m ([Value.ref b] : List Value).toArray 4) := by
  obtain ⟨hx, hb, hr, hml, hown, hts, hX, hbl, hlocks, hgv⟩ := id C0
  have hsf := flat_of_before _ hgv
  have htz : ∀ w ∈ ztb, w.before #[Value.ref b] s = true := fun w hw => hts w (List.mem_filter.mp hw).1
  obtain ⟨D, cA, hK⟩ := st_K hts
  obtain ⟨adK, adV, hSx⟩ := st_sx hts hsf
  have hA : ∀ q : Nat, s.heap.size ≤ q → (fun q : Nat => s.heap.size ≤ q) q := fun _ h => h
  obtain ⟨adC, eC⟩ : ∃ adC, adC = st_ad s.heap.size adK adV := ⟨_, rfl⟩
  obtain ⟨adM, eM⟩ : ∃ adM, adM = st_ad (s.heap.size + 66) adK adV := ⟨_, rfl⟩
  have hAdC : zAd s.heap.size adC := by rw [eC]; exact st_adA _ _ _
  have hAdM : zAd (s.heap.size + 66) adM := by rw [eM]; exact st_adA _ _ _
  have CC : zCx p s m #[Value.ref b] meth c code 4 R_law ret D adC cA (fun q : Nat => s.heap.size ≤ q) := ⟨hx, hb, hml, hown, htz, hK, hA, hr, hlocks, by rw [eC]; exact hSx _⟩
  have CM : zCx p s m #[Value.ref b] meth c code 4 R_law ret D adM cA (fun q : Nat => s.heap.size ≤ q) := ⟨hx, hb, hml, hown, htz, hK, hA, hr, hlocks, by rw [eM]; exact hSx _⟩
  have Fx : lwF s s.heap.size (s.heap.size + 66) adC adM := ⟨hAdC, hAdM, Nat.le_refl _, Nat.le_refl _⟩
  have DC : ∀ S, va_D (fun q : Nat => s.heap.size ≤ q) (zw zC adC cA S) := fun S => zD_of hAdC (by decide) (fun k hk => by have hk : k < 66 := hk; show s.heap.size ≤ adC k; rw [hAdC k (by omega)]; omega)
  have DM : ∀ S, va_D (fun q : Nat => s.heap.size ≤ q) (zw zM adM cA S) := fun S => zD_of hAdM (by decide) (fun k hk => by have hk : k < 18 := hk; show s.heap.size ≤ adM k; rw [hAdM k (by omega)]; omega)
  have hl := lv_entry ([.ref b]) (n := 4) (Nat.le_of_ble_eq_true rfl)
  rw [lg_entry_eq]
  generalize (lg_sl ([.ref b]) ++ List.replicate (4 - (lg_sl ([.ref b])).length) Slot.unset).toArray = ls at hl ⊢
  have hl : lv_has ls 4 [(0, .ref b)] := hl
  have P0 : zP D [] adC cA (fun q : Nat => s.heap.size ≤ q) (fun _ _ => 0, fun _ _ => 0) s s.heap [] := ⟨fun k q h => by simp [zw] at h, ⟨fun i j p q h => by simp [zw] at h, fun k q h => by simp [zw] at h⟩, va_S.rf⟩
  refine zk_newF CC P0 (hAdC 0 (by decide)).symm (hAdC.s 0 (by decide)) (ci := 6) rfl iX6 tyX6 tyX6_ok zscl6 zsn6 kN6 st_f6 (st_ks6 _ _) (by decide) (by decide) dL_law_0 (fun H _ hz P => ?_)
  have P : zP D zqc0 adC cA (fun q : Nat => s.heap.size ≤ q) zuc0 s H _ := P
  have hz : H.size = adC zqc0.length := hz
  refine W.eq (g2 := F0 m 3 ls [.ref (adC 0)]) rfl ?_
  refine lv_dup hx hb dL_law_3 rfl ?_
  refine zk_callF CC P hz (mk6_c0 hAdC) zsl6 zsi6 kN6 zsc6 rfl (by decide +kernel) (by decide) hl.1 (Nat.le_of_ble_eq_true rfl) dL_law_4 (by decide) (fun H locs _ hz P => ?_)
  rw [zqc_end] at hz P
  have P : zP D zC adC cA (fun q : Nat => s.heap.size ≤ q) zuC s H locs := P
  have hz : H.size = s.heap.size + 66 := by rw [hz, show zC.length = 66 from rfl, hAdC 66 (by decide)]
  refine lv_astore_n (lv' := [(1, .ref (adC 0)), (0, .ref b)]) hx hb dL_law_7 rfl hl (by decide) rfl (fun ls hl => ?_)
  have P1 : zP D [] adM cA (fun q : Nat => s.heap.size ≤ q) (fun _ _ => 0, fun _ _ => 0) s H locs := ⟨fun k q h => by simp [zw] at h, ⟨fun i j p q h => by simp [zw] at h, fun k q h => by simp [zw] at h⟩, P.2.2⟩
  refine zk_newF CM P1 (hz.trans (hAdM 0 (by decide)).symm) (hAdM.s 0 (by decide)) (ci := 7) rfl iX7 tyX7 tyX7_ok zscl7 zsn7 kN7 st_f7 (st_ks7 _ _) (by decide) (by decide) dL_law_8 (fun H2 ho hz2 P2 => ?_)
  have hPC2 : va_P D zcl (zw zC adC cA zuC) H2 := P.1.kept (fun k q hq => ho q.1 ((P.1 k q hq).lt))
  have P2 : zP D zqm0 adM cA (fun q : Nat => s.heap.size ≤ q) zum0 s H2 _ := P2
  have hz2 : H2.size = adM zqm0.length := hz2
  refine W.eq (g2 := F0 m 11 ls [.ref (adM 0)]) rfl ?_
  refine lv_dup hx hb dL_law_11 rfl ?_
  refine zk_callF CM P2 hz2 (mk7_m0 hAdM) zsl7 zsi7 kN7 zsc7 rfl (by decide +kernel) (by decide) hl.1 (Nat.le_of_ble_eq_true rfl) dL_law_12 (by decide) (fun H3 locs hk hz3 P3 => ?_)
  have hPC3 : va_P D zcl (zw zC adC cA zuC) H3 := hPC2.kept (fun k q hq => hk q.1 ((hPC2 k q hq).lt) (fun h => by
    obtain ⟨x, hx9, rfl⟩ := zw_inv hq
    have hkl : k < 66 := (List.getElem?_eq_some_iff.mp hx9).1
    rcases h with ⟨j, e9, h⟩ | h
    · obtain ⟨y, hy, hj⟩ := zw_inv h
      have hjl : j < 1 := (List.getElem?_eq_some_iff.mp hy).1
      have e9 : adC k = adM j := congrArg Prod.fst hj
      rw [hAdC k (by omega), hAdM j (by omega)] at e9
      omega
    · exact absurd ((hPC2 k _ hq).lt) (by omega)))
  rw [zqm_end] at P3
  have P3 : zP D zM adM cA (fun q : Nat => s.heap.size ≤ q) zuM s H3 locs := P3
  refine lv_astore_n (lv' := [(2, .ref (adM 0)), (1, .ref (adC 0)), (0, .ref b)]) hx hb dL_law_15 rfl hl (by decide) rfl (fun ls hl => ?_)
  refine lv_iconst (v := 0) hx hb dL_law_16 (by decide) ?_
  refine lv_istore_n (lv' := [(3, .int 0), (2, .ref (adM 0)), (1, .ref (adC 0)), (0, .ref b)]) hx hb dL_law_17 rfl hl (by decide) rfl (fun ls hl => ?_)
  refine W.widen (k := 200) (n := 3000) (by decide) (by decide) ?_
  exact law_loop hsim hL C0 Fx CC CM DC DM (L + 6) 0 0 (Nat.zero_le L) (by omega) nI_0.symm zuC zuM hI0 H3 locs hPC3 P3.1 P3.2.2 ls (lv_sub hl [3, 2, 1, 0] rfl)
