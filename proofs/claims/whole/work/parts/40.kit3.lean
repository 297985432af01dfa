/-! MAKING: rows for constructors. Cells come at the heap's end; their addresses follow one another -/
def zClr (S : Zs) (k : Nat) : Zs := (fun a b => if a = k then 0 else S.1 a b, fun a b => if a = k then 0 else S.2 a b)
theorem zClr_1 (S : Zs) (k : Nat) : (zClr S k).1 k = fun _ => 0 := by funext b; simp [zClr]
theorem zClr_2 (S : Zs) (k : Nat) : (zClr S k).2 k = fun _ => 0 := by funext b; simp [zClr]
theorem zClr_1n (S : Zs) {k i : Nat} (h : i ≠ k) : (zClr S k).1 i = S.1 i := by funext b; simp [zClr, h]
theorem zClr_2n (S : Zs) {k i : Nat} (h : i ≠ k) : (zClr S k).2 i = S.2 i := by funext b; simp [zClr, h]
theorem zw_len {sh : List Zc} {ad : Nat → Nat} {cA : Nat → ClassId} {S : Zs} : (zw sh ad cA S).length = sh.length := by unfold zw; simp
theorem zw_push {sh : List Zc} {x : Zc} {ad : Nat → Nat} {cA : Nat → ClassId} {S : Zs} : zw (sh ++ [x]) ad cA S = zw sh ad cA S ++ [(ad sh.length, zcel ad cA S sh.length x)] := by
  unfold zw
  rw [List.mapIdx_append]
  simp
theorem zw_keep {sh : List Zc} {ad : Nat → Nat} {cA : Nat → ClassId} {S S' : Zs} (h : ∀ k, k < sh.length → S'.1 k = S.1 k ∧ S'.2 k = S.2 k) : zw sh ad cA S' = zw sh ad cA S := by
  apply List.ext_getElem?
  intro i
  unfold zw
  rw [List.getElem?_mapIdx, List.getElem?_mapIdx]
  by_cases hi : i < sh.length
  · cases hx : sh[i]? with
    | none => rfl
    | some y => simp only [Option.map_some, zcel_eq (h i hi).1 (h i hi).2 y]
  · rw [List.getElem?_eq_none (by omega)]
    rfl
theorem zw_clr {sh : List Zc} {ad : Nat → Nat} {cA : Nat → ClassId} {S : Zs} {n : Nat} (hn : sh.length ≤ n) : zw sh ad cA (zClr S n) = zw sh ad cA S :=
  zw_keep (fun k hk => ⟨zClr_1n S (by omega), zClr_2n S (by omega)⟩)
theorem zw_setsh {sh : List Zc} {ad : Nat → Nat} {cA : Nat → ClassId} {S : Zs} {o : Nat} {x : Zc} : zw (sh.set o x) ad cA S = (zw sh ad cA S).set o (ad o, zcel ad cA S o x) := by
  apply List.ext_getElem?
  intro i
  by_cases hi : i = o
  · subst hi
    by_cases hl : i < sh.length
    · rw [List.getElem?_set_self (by rw [zw_len]; exact hl), zw_at (List.getElem?_set_self hl)]
    · rw [List.getElem?_eq_none (by rw [zw_len, List.length_set]; omega), List.getElem?_eq_none (by rw [List.length_set, zw_len]; omega)]
  · rw [List.getElem?_set_ne (Ne.symm hi)]
    unfold zw
    rw [List.getElem?_mapIdx, List.getElem?_mapIdx, List.getElem?_set_ne (Ne.symm hi)]
theorem zfs_R {ad : Nat → Nat} {S : Zs} {k j q : Nat} {fs : List Zf} (hj : j < fs.length) : (fs.mapIdx (fun j f => zfv ad S k j f)).set j (.ref (ad q)) = (fs.set j (.inr q)).mapIdx (fun i f => zfv ad S k i f) := by
  apply List.ext_getElem?
  intro i
  by_cases hi : i = j
  · subst hi
    rw [List.getElem?_set_self (by simp; exact hj), List.getElem?_mapIdx, List.getElem?_set_self hj]
    rfl
  · rw [List.getElem?_set_ne (Ne.symm hi), List.getElem?_mapIdx, List.getElem?_mapIdx, List.getElem?_set_ne (Ne.symm hi)]
def zk_arr (t N : Nat) : vp_A := match t with
  | 1 => (N, .inr (.inl (fun _ => 0)))
  | _ => (N, .inl (fun _ => 0))
/-- the addresses of what is made follow one another -/
def zAd (h0 : Nat) (ad : Nat → Nat) : Prop := ∀ k, k < 1000 → ad k = h0 + k
/-- a maker's contract -/
def zMk (l : Launch) (y : MethodName) (bytes : ByteArray) (maxL : Nat) (fr lo mc ms : Nat) (D : va_G) (ad : Nat → Nat) (cA : Nat → ClassId) (sh sh' : List Zc) (S S' : Zs) (av : List Value) : Prop :=
  ∀ sz : Nat, sz = ad sh.length → Met l y (.code y bytes maxL none :: ztb) { frames := fr, cells := mc, slots := ms, locals := lo } (zPc D sh ad cA sz S av) (va_Qv (fun _ : Unit => True) (fun _ t => t.heap.size = ad sh'.length ∧ zB D sh' ad cA (zA sh ad cA S sz) S' t) (zA sh ad cA S sz)) mc ms (zA sh ad cA S sz)
abbrev zrk (fr lo mc ms : Nat) : Room := { frames := fr, cells := mc, slots := ms, locals := lo }
theorem zk_enter {l : Launch} {y : MethodName} {bytes : ByteArray} {maxL fr lo mc ms : Nat} {D : va_G} {sh sh' : List Zc} {ad : Nat → Nat} {cA : Nat → ClassId} {S S' : Zs} {av : List Value} (hy : plainName y.cls = true) (hav : (lg_sl av).length ≤ maxL) (hyn : y.name = "<init>")
    (body : ∀ (p : Program) (e : Env) (s : State) (m : MethodId) (below : List Frame) (meth : Method) (c : Code) (A : Nat → Prop), zCx p s m av.toArray meth c bytes maxL y.cls none D ad cA A → meth.name = "<init>" → zP D sh ad cA A S s s.heap [] → s.heap.size = ad sh.length → ∀ ls : Array Slot, lv_has ls maxL (lv_args 0 av) →
      W p l e (zrk fr lo mc ms) s m av.toArray below meth c s.heap [] 0 0 (MQ below (va_Qv (fun _ : Unit => True) (fun _ t => t.heap.size = ad sh'.length ∧ zB D sh' ad cA A S' t) A) av.toArray s mc ms A) (F0 m 0 ls [])) :
    zMk l y bytes maxL fr lo mc ms D ad cA sh sh' S S' av := by
  intro sz hsz0
  refine Met.ofW (cc := bytes) (maxL := maxL) (ret := none) hy rfl ?_
  intro p e s m args below meth c s₁ B hml hv
  obtain ⟨rfl, hsz, hP, hK, hD0, hSx⟩ := hv
  have hts := atoms_spec (ws := .code y bytes maxL none :: ztb) B.pre
  have hin : meth.name = "<init>" := ((name_of_methodNamed B.named B.method).1).trans hyn
  subst hsz
  rw [lg_entry_eq]
  exact body p e s m below meth c (zA sh ad cA S s.heap.size) ⟨B.exec, B.bytes, hml, findClass_of_methodNamed B.named, fun w hw => hts w (List.mem_cons_of_mem _ hw), hK, fun q h => Or.inr h, B.returns, B.notSynchronized, hSx⟩ hin ⟨hP, hD0.self, va_S.rf⟩ hsz0 _ (lv_entry av hav)
section ZMK
variable {p : Program} {l : Launch} {e : Env} {R : Room} {s : State} {m : MethodId} {args : Array Value} {below : List Frame} {meth : Method} {c : Code} {H : Heap} {locs : List Loc} {cells slots : Nat} {Q : State → Prop}
variable {cc : ByteArray} {nL pc : Nat} {own : String} {ret : Option FieldType} {D : va_G} {cA : Nat → ClassId} {A : Nat → Prop} {ls : Array Slot} {rest : List Value} {sh : List Zc} {ad : Nat → Nat} {S : Zs} {index : Nat}
theorem zk_ret (C : zCx p s m args meth c cc nL own none D ad cA A) (P : zP D sh ad cA A S s H locs) (hz : H.size = ad sh.length) {mc ms : Nat} (h1 : cells ≤ mc) (h2 : slots ≤ ms) (hdg : decode cc pc = .ok (.return_, 1)) : W p l e R s m args below meth c H locs cells slots (MQ below (va_Qv (fun _ : Unit => True) (fun _ t => t.heap.size = ad sh.length ∧ zB D sh ad cA A S t) A) args s mc ms A) (F0 m pc ls []) := by
  obtain ⟨hx, hb, hml, hown, hts, hK, hA, hr, hlk, -⟩ := C
  refine W.widen (k := mc) (n := ms) h1 h2 ?_
  exact W.vret hx hb hr (fun t ht hW => ⟨⟨(), rfl, trivial, by rw [ht]; exact hz, by rw [ht]; exact P.1, va_K.moved hW.alike hK, P.2.1⟩, P.2.2.F ht⟩) P.2.2.2.2 hdg hlk
theorem zk_obj (C : zCx p s m args meth c cc nL own ret D ad cA A) (hw : Cond.methodLink own index objectInit ∈ ztb) (hi : Cond.instanceMethod objectInit ∈ ztb) (hc : Cond.code objectInit ⟨#[0xb1]⟩ 1 none ∈ ztb) (hl : ls.size = nL) {a : Nat} (hdg : decode cc pc = .ok (.invokespecial index, 3)) (hR : 1 ≤ R.frames ∧ 20 ≤ R.locals) (hcat : (rest.map fun v => v.category).sum ≤ 8)
    (kk : W p l e R s m args below meth c H locs cells slots Q (F0 m (pc + 3) ls rest)) : W p l e R s m args below meth c H locs cells slots Q (F0 m pc ls (.ref a :: rest)) := by
  obtain ⟨hx, hb, hml, hown, hts, hK, hA, -⟩ := C
  exact W.objInit hx hb hown (hts _ hw) (hts _ hi) (hts _ hc) rfl (by rw [hml]; exact hl) rfl hdg hR.1 (by show 2 * 0 + _ + 12 ≤ _; omega) kk
theorem zk_new (C : zCx p s m args meth c cc nL own ret D ad cA A) (P : zP D sh ad cA A S s H locs) (hz : H.size = ad sh.length) (had : ad (sh.length + 1) = ad sh.length + 1) {ci N : Nat} {Cn : String} {T : u_T} (hc : zcl[ci]? = some (Cn, T, N)) (hin : ∀ w ∈ u_ws Cn T N, w ∈ ztb) (ty : Nat → FieldType) (hty : ∀ k, k < N → parseFieldDescriptor (T k).2.2.1 = some (ty k)) (hcl : Cond.classLink own index Cn ∈ ztb) (hinst : Cond.instantiable Cn N ∈ ztb) (hini : Cond.initialized Cn ∈ ztb) (ks : List Zf) (hks : ∀ j, j < N → defaultValue (ty j) = vp_V (ks.mapIdx (fun j f => zfv ad (zClr S sh.length) sh.length j f)) j) (hcells : cells + 1 ≤ R.cells) (hslots : slots + N ≤ R.slots) (hdg : decode cc pc = .ok (.new index, 3))
    (kk : ∀ H1 : Heap, H1.size = ad (sh ++ ([.inl (ci, ks)] : List Zc)).length → zP D (sh ++ ([.inl (ci, ks)] : List Zc)) ad cA A (zClr S sh.length) s H1 locs → W p l e R s m args below meth c H1 locs (cells + 1) (slots + N) Q (F0 m (pc + 3) ls (.ref (ad sh.length) :: rest))) : W p l e R s m args below meth c H locs cells slots Q (F0 m pc ls rest) := by
  obtain ⟨hx, hb, hml, hown, hts, hK, hA, -⟩ := C
  have hKn := hK.1 ci _ hc
  refine W.newcK hx hb hown (hts _ hcl) (hts _ hinst) (hts _ hini) rfl hdg hcells hslots hKn.2.1 hz fun H1 kC hkC e1 z1 o1 => ?_
  have hk : ∀ (k : Nat) (x : Nat × va_E), (zw sh ad cA S)[k]? = some x → H1[x.1]? = H[x.1]? := fun k x hx => o1 x.1 (by have := (P.1 k x hx).lt; omega)
  refine kk H1 (by rw [z1, List.length_append]; exact had.symm) ⟨?_, ?_, ?_⟩
  · rw [zw_push, zw_clr (Nat.le_refl _)]
    refine (P.1.kept hk).app (fun k x hx => ?_)
    have hz1 : k < 1 := (List.getElem?_eq_some_iff.mp hx).1
    rw [show k = 0 by omega] at hx
    cases hx
    exact ⟨_, hc, (u_born ty hts hin hKn hkC e1 hty).to hks⟩
  · rw [zw_push, zw_clr (Nat.le_refl _)]
    exact P.2.1.push P.1 hz.symm (hA _ (by rw [← hz]; exact P.2.2.1))
  · exact ⟨Nat.le_trans P.2.2.1 (by omega), fun x h1 h2 => (o1 x (by have := P.2.2.1; omega)).trans (P.2.2.2.1 x h1 h2), P.2.2.2.2⟩
theorem zk_newa (C : zCx p s m args meth c cc nL own ret D ad cA A) (P : zP D sh ad cA A S s H locs) (hz : H.size = ad sh.length) (had : ad (sh.length + 1) = ad sh.length + 1) {atype : ArrayType} {ty : FieldType} (hty : newarray.typeOf atype = ty) (t : Nat) (ht : (ztys cA)[t]? = some (cA t, ty)) (hra : va_RA s (cA t) ty → s.vm.findClass ("[" ++ ty.toString) = some (cA t)) (harr : Cond.arrayClass ty ∈ ztb) {n : Int32} (N : Nat) (hce : zcel ad cA (zClr S sh.length) sh.length (.inr (t, N, [])) = .inl (cA t, zk_arr t N)) (hcl : ∀ c9 : ClassId, vp_cell c9 (zk_arr t N) = arrV c9 N (fun _ => defaultValue ty)) (hn : ¬ n < 0) (hN : n.toNatClampNeg = N) (hbytes : N * componentBytes ty ≤ 536870912) (hcells : cells + 1 ≤ R.cells) (hslots : slots + N ≤ R.slots) (hdg : decode cc pc = .ok (.newarray atype, 2))
    (kk : ∀ H1 : Heap, H1.size = ad (sh ++ ([.inr (t, N, [])] : List Zc)).length → zP D (sh ++ ([.inr (t, N, [])] : List Zc)) ad cA A (zClr S sh.length) s H1 locs → W p l e R s m args below meth c H1 locs (cells + 1) (slots + N) Q (F0 m (pc + 2) ls (.ref (ad sh.length) :: rest))) : W p l e R s m args below meth c H locs cells slots Q (F0 m pc ls (.int n :: rest)) := by
  subst hty
  obtain ⟨hx, hb, hml, hown, hts, hK, hA, -⟩ := C
  refine va_newaK hx hb (hts _ harr) rfl hdg rfl hn hN hbytes hcells hslots hz fun H1 cA9 e1 z1 o1 hAr hNm => ?_
  have ecA : cA9 = cA t := Option.some.inj (hNm.symm.trans (hra (hK.2 t _ ht).2))
  subst ecA
  have hk : ∀ (k : Nat) (x : Nat × va_E), (zw sh ad cA S)[k]? = some x → H1[x.1]? = H[x.1]? := fun k x hx => o1 x.1 (by have := (P.1 k x hx).lt; omega)
  refine kk H1 (by rw [z1, List.length_append]; exact had.symm) ⟨?_, ?_, ?_⟩
  · rw [zw_push, zw_clr (Nat.le_refl _)]
    refine (P.1.kept hk).app (fun k x hx => ?_)
    have hz1 : k < 1 := (List.getElem?_eq_some_iff.mp hx).1
    rw [show k = 0 by omega] at hx
    cases hx
    rw [hce]
    show H1[ad sh.length]? = some (vp_cell _ _)
    rw [hcl]
    exact e1
  · rw [zw_push, zw_clr (Nat.le_refl _)]
    exact P.2.1.push P.1 hz.symm (hA _ (by rw [← hz]; exact P.2.2.1))
  · exact ⟨Nat.le_trans P.2.2.1 (by omega), fun x h1 h2 => (o1 x (by have := P.2.2.1; omega)).trans (P.2.2.2.1 x h1 h2), P.2.2.2.2⟩
end ZMK
def zClrs (S : Zs) (n k : Nat) : Zs := (fun a b => if n ≤ a ∧ a < n + k then 0 else S.1 a b, fun a b => if n ≤ a ∧ a < n + k then 0 else S.2 a b)
theorem zClrs_1 (S : Zs) {n k i : Nat} (h : n ≤ i ∧ i < n + k) : (zClrs S n k).1 i = fun _ => 0 := by funext b; simp [zClrs, h]
theorem zClrs_1n (S : Zs) {n k i : Nat} (h : ¬ (n ≤ i ∧ i < n + k)) : (zClrs S n k).1 i = S.1 i := by funext b; simp only [zClrs, if_neg h]
theorem zClrs_2n (S : Zs) {n k i : Nat} (h : ¬ (n ≤ i ∧ i < n + k)) : (zClrs S n k).2 i = S.2 i := by funext b; simp only [zClrs, if_neg h]
theorem zw_inv {sh : List Zc} {ad : Nat → Nat} {cA : Nat → ClassId} {S : Zs} {k : Nat} {q : Nat × va_E} (h : (zw sh ad cA S)[k]? = some q) : ∃ x, sh[k]? = some x ∧ q = (ad k, zcel ad cA S k x) := by
  unfold zw at h
  rw [List.getElem?_mapIdx] at h
  cases hx : sh[k]? with
  | none => rw [hx] at h; cases h
  | some x => rw [hx] at h; exact ⟨x, rfl, (Option.some.inj h).symm⟩
theorem zD_of {sh : List Zc} {ad : Nat → Nat} {cA : Nat → ClassId} {S : Zs} {A : Nat → Prop} {h0 : Nat} (had : zAd h0 ad) (hl : sh.length ≤ 1000) (hA : ∀ k, k < sh.length → A (ad k)) : va_D A (zw sh ad cA S) := by
  refine ⟨fun i j x y hi hj e => ?_, fun k q hk => ?_⟩
  · obtain ⟨x1, h1, rfl⟩ := zw_inv hi
    obtain ⟨y1, h2, rfl⟩ := zw_inv hj
    have l1 := (List.getElem?_eq_some_iff.mp h1).1
    have l2 := (List.getElem?_eq_some_iff.mp h2).1
    have e : ad i = ad j := e
    rw [had i (by omega), had j (by omega)] at e
    omega
  · obtain ⟨x1, h1, rfl⟩ := zw_inv hk
    exact hA k (List.getElem?_eq_some_iff.mp h1).1
theorem zAd.s {h0 : Nat} {ad : Nat → Nat} (h : zAd h0 ad) (n : Nat) (hn : n + 1 < 1000) : ad (n + 1) = ad n + 1 := by
  rw [h (n + 1) hn, h n (by omega)]
  omega
def zgrid (n N K : Nat) : List Zc := .inr (3, N, (List.range N).map (fun i => n + 1 + i)) :: List.replicate N (.inr (0, K, []))
section ZMM
variable {p : Program} {l : Launch} {e : Env} {R : Room} {s : State} {m : MethodId} {args : Array Value} {below : List Frame} {meth : Method} {c : Code} {H : Heap} {locs : List Loc} {cells slots : Nat} {Q : State → Prop}
variable {cc : ByteArray} {nL pc : Nat} {own : String} {ret : Option FieldType} {D : va_G} {cA : Nat → ClassId} {A : Nat → Prop} {ls : Array Slot} {rest : List Value} {sh : List Zc} {ad : Nat → Nat} {S : Zs} {index : Nat}
theorem zk_mna (C : zCx p s m args meth c cc nL own ret D ad cA A) (P : zP D sh ad cA A S s H locs) (hz : H.size = ad sh.length) {h0 : Nat} (had : zAd h0 ad) {n k : Int32} (N K : Nat) (hlen : sh.length + 1 + N ≤ 999) (hclink : Cond.classLink own index "[[I" ∈ ztb) (harr : Cond.arrayClass .int ∈ ztb) (hn : ¬ n < 0) (hk : ¬ k < 0) (hN : n.toNatClampNeg = N) (hM : k.toNatClampNeg = K) (hb1 : N * 4 ≤ 536870912) (hb2 : K * componentBytes .int ≤ 536870912) (hb3 : K ≤ 536870912) (hcells : cells + (1 + N) ≤ R.cells) (hslots : slots + (N + N * K) ≤ R.slots) (hdg : decode cc pc = .ok (.multianewarray index 2, 4))
    (kk : ∀ H1 : Heap, H1.size = ad (sh ++ zgrid sh.length N K).length → zP D (sh ++ zgrid sh.length N K) ad cA A (zClrs S sh.length (N + 1)) s H1 locs → W p l e R s m args below meth c H1 locs (cells + 1 + N) (slots + N + N * K) Q (F0 m (pc + 4) ls (.ref (ad sh.length) :: rest))) : W p l e R s m args below meth c H locs cells slots Q (F0 m pc ls (.int k :: .int n :: rest)) := by
  subst hN
  subst hM
  obtain ⟨hx, hb, hml, hown, hts, hK, hA, -, -, hSx⟩ := C
  intro T hT Xs
  obtain ⟨vm₁, cA9, comp, -, fA, fC, hO, -, X', step⟩ := Xs.multianewarray2F hx hown (ty := .int) (index := index) (hts _ hclink) (va_AOA.use hSx.2.2.2.2.2.2.2) (hts _ harr) (g := F0 m pc ls (.int k :: .int n :: rest)) rfl (by rw [hb]; exact hdg) rfl hn hk hb1 hb2 hb3 (by decide) (by decide) hcells hslots
  have r3 : s.vm.findClass ("[" ++ (FieldType.array FieldType.int).toString) = some (cA 3) := (hK.2 3 (cA 3, .array .int) rfl).2
  have r0 : s.vm.findClass ("[" ++ FieldType.int.toString) = some (cA 0) := (hK.2 0 (cA 0, .int) rfl).2
  have e3 : cA9 = cA 3 := Option.some.inj (fA.symm.trans r3)
  have e0 : comp = cA 0 := Option.some.inj (fC.symm.trans r0)
  subst e3
  subst e0
  generalize hF : Jvm.Free.Multi.fill (T.setVm vm₁) (cA 3) (cA 0) n.toNatClampNeg k.toNatClampNeg (defaultValue .int) n.toNatClampNeg = F at X' step
  have hTh : (T.setVm vm₁).heap = H := hT
  obtain ⟨f1, f2, -, -⟩ := Jvm.Free.Multi.fill_facts (T.setVm vm₁) (cA 3) (cA 0) n.toNatClampNeg k.toNatClampNeg (defaultValue .int) n.toNatClampNeg
  rw [hF, hTh] at f1 f2
  have hold : ∀ x : Nat, x < H.size → F.heap[x]? = H[x]? := fun x hx => by
    have := Jvm.Free.Multi.fill_old (T.setVm vm₁) (cA 3) (cA 0) n.toNatClampNeg k.toNatClampNeg (defaultValue .int) (a := x) (by rw [hTh]; exact hx) n.toNatClampNeg
    rw [hF, hTh] at this
    exact this
  have hrow : ∀ j : Nat, j < n.toNatClampNeg → F.heap[H.size + 1 + j]? = some (vp_cell (cA 0) (k.toNatClampNeg, .inl (fun _ => 0))) := fun j hj => by
    have := Jvm.Free.Multi.fill_inner (T.setVm vm₁) (cA 3) (cA 0) n.toNatClampNeg k.toNatClampNeg (defaultValue .int) n.toNatClampNeg j hj
    rw [hF, hTh] at this
    rw [this, vp_cell_i]
    exact congrArg some (arrV_new _ _ _)
  have hout : Jvm.Free.Multi.outerC (cA 3) n.toNatClampNeg H.size n.toNatClampNeg = vp_cell (cA 3) (n.toNatClampNeg, .inr (.inr (.inr (.inr (fun i => if i < n.toNatClampNeg then some (H.size + 1 + i) else none))))) := by
    rw [vp_cell_q]
    exact vr_outer (cA 3) n.toNatClampNeg H.size n.toNatClampNeg
  rw [hout] at f2
  have hlenE : (sh ++ zgrid sh.length n.toNatClampNeg k.toNatClampNeg).length = sh.length + 1 + n.toNatClampNeg := by
    simp [zgrid]
    omega
  have hsz : F.heap.size = ad (sh ++ zgrid sh.length n.toNatClampNeg k.toNatClampNeg).length := by
    rw [f1, hlenE, had _ (by omega), hz, had _ (by omega)]
    omega
  have hP2 : va_P D zcl (zw (sh ++ zgrid sh.length n.toNatClampNeg k.toNatClampNeg) ad cA (zClrs S sh.length (n.toNatClampNeg + 1))) F.heap := by
    intro i q hq
    obtain ⟨x, hx1, rfl⟩ := zw_inv hq
    have hil := (List.getElem?_eq_some_iff.mp hx1).1
    rw [hlenE] at hil
    by_cases h1 : i < sh.length
    · rw [List.getElem?_append_left h1] at hx1
      have h2 := P.1 i _ (zw_at hx1)
      rw [zcel_eq (zClrs_1n S (by omega)) (zClrs_2n S (by omega)) x]
      exact h2.kept (hold _ h2.lt)
    · rw [List.getElem?_append_right (by omega)] at hx1
      by_cases h2 : i = sh.length
      · subst h2
        rw [Nat.sub_self] at hx1
        cases hx1
        show F.heap[ad sh.length]? = some (vp_cell (cA 3) (n.toNatClampNeg, .inr (.inr (.inr (.inr _)))))
        rw [← hz, f2]
        refine congrArg some ?_
        rw [vp_cell_q, vp_cell_q]
        refine congrArg (arrV (cA 3) n.toNatClampNeg) (funext fun j => ?_)
        by_cases hj : j < n.toNatClampNeg
        · rw [if_pos hj]
          have e9 : H.size + 1 + j = ad (sh.length + 1 + j) := by rw [hz, had _ (by omega), had _ (by omega)]; omega
          rw [e9]
          simp [hj]
        · rw [if_neg hj]
          simp [hj]
      · obtain ⟨j, rfl⟩ : ∃ j, i = sh.length + 1 + j := ⟨i - sh.length - 1, by omega⟩
        have hx2 : x = .inr (0, k.toNatClampNeg, []) := by
          rw [show sh.length + 1 + j - sh.length = j + 1 by omega] at hx1
          unfold zgrid at hx1
          rw [List.getElem?_cons_succ, List.getElem?_replicate, if_pos (by omega)] at hx1
          exact (Option.some.inj hx1).symm
        subst hx2
        show F.heap[ad (sh.length + 1 + j)]? = some (vp_cell (cA 0) (k.toNatClampNeg, .inl ((zClrs S sh.length (n.toNatClampNeg + 1)).1 (sh.length + 1 + j))))
        rw [zClrs_1 S (by omega), ← hrow j (by omega)]
        congr 1
        rw [hz, had _ (by omega), had _ (by omega)]
        omega
  have hS2 : va_S A s.heap F.heap locs := ⟨by have := P.2.2.1; rw [hsz, hlenE, had _ (by omega)]; rw [hz, had _ (by omega)] at this; omega, fun x h1 h2 => (hold x (by have := P.2.2.1; omega)).trans (P.2.2.2.1 x h1 h2), P.2.2.2.2⟩
  have hAk : ∀ i, i < (sh ++ zgrid sh.length n.toNatClampNeg k.toNatClampNeg).length → A (ad i) := by
    intro i hi
    by_cases h1 : i < sh.length
    · obtain ⟨x, hx9⟩ : ∃ x, sh[i]? = some x := ⟨_, List.getElem?_eq_getElem h1⟩
      exact P.2.1.2 i _ (zw_at hx9)
    · rw [hlenE] at hi
      refine hA _ ?_
      have := P.2.2.1
      rw [hz, had _ (by omega)] at this
      rw [had _ (by omega)]
      omega
  obtain ⟨t, a1, b1⟩ := kk F.heap hsz ⟨hP2, zD_of had (by rw [hlenE]; omega) hAk, hS2⟩ F rfl X'
  refine ⟨t, step t ?_, b1⟩
  have e : T.heap.size = ad sh.length := by rw [hT]; exact hz
  rw [e]
  exact a1
theorem zk_putR (C : zCx p s m args meth c cc nL own ret D ad cA A) (hin2 : meth.name = "<init>") (P : zP D sh ad cA A S s H locs) (hz : H.size = ad sh.length) {ci N : Nat} {T : u_T} (hc : zcl[ci]? = some (own, T, N)) (hin : ∀ w ∈ u_ws own T N, w ∈ ztb) (ty0 : Nat → FieldType) (hty : ∀ k, k < N → parseFieldDescriptor (T k).2.2.1 = some (ty0 k)) (hnm : ∀ a, a < N → ∀ b, b < N → a ≠ b → (T a).2.1 ≠ (T b).2.1) (k : Nat) (hk : k < N) (href : (T k).1 = own) (hfin : (T k).2.2.2 = true) (hlink : Cond.fieldLink own index own (T k).2.1 (T k).2.2.1 ∈ ztb) {o q : Nat} {fs : List Zf} (hs : sh[o]? = some (.inl (ci, fs))) (hkl : k < fs.length) (hn : narrow (ty0 k) (.ref (ad q)) = .ref (ad q)) (hfit : fits (ty0 k) (.ref (ad q)) = true) (hdg : decode cc pc = .ok (.putfield index, 3))
    (kk : ∀ (H1 : Heap) (locs1 : List Loc), H1.size = ad (sh.set o (.inl (ci, fs.set k (.inr q)))).length → zP D (sh.set o (.inl (ci, fs.set k (.inr q)))) ad cA A S s H1 locs1 → W p l e R s m args below meth c H1 locs1 cells slots Q (F0 m (pc + 3) ls rest)) : W p l e R s m args below meth c H locs cells slots Q (F0 m pc ls (.ref (ad q) :: .ref (ad o) :: rest)) := by
  obtain ⟨hx, hb, hml, hown, hts, hK, -⟩ := C
  have hgo : ∀ (H1 : Heap) (locs1 : List Loc), H1.size = H.size → va_P D zcl ((zw sh ad cA S).set o (ad o, .inr (ci, (fs.mapIdx (fun j f => zfv ad S o j f)).set k (.ref (ad q))))) H1 → va_D A ((zw sh ad cA S).set o (ad o, .inr (ci, (fs.mapIdx (fun j f => zfv ad S o j f)).set k (.ref (ad q))))) → va_S A s.heap H1 locs1 → W p l e R s m args below meth c H1 locs1 cells slots Q (F0 m (pc + 3) ls rest) := by
    intro H1 locs1 hz1 hP hD hS
    rw [zfs_R hkl, show ((ad o, (.inr (ci, (fs.set k (.inr q)).mapIdx (fun i f => zfv ad S o i f)) : va_E)) : Nat × va_E) = (ad o, zcel ad cA S o (.inl (ci, fs.set k (.inr q)))) from rfl, ← zw_setsh] at hP hD
    exact kk H1 locs1 (by rw [hz1, List.length_set]; exact hz) ⟨hP, hD, hS⟩
  have hap := va_apart (own := own) hts hin ty0 hty hnm hK hc
  obtain ⟨r, h1, cell, q1, q2, q3, q4⟩ := P.1 o _ (zw_at hs)
  have hr : r = (own, T, N) := Option.some.inj (h1.symm.trans hc)
  subst hr
  obtain ⟨hSl, hfc, kC, hkC, hkind⟩ := hK.1 ci _ hc
  obtain ⟨cf, kf, fi, f, hi, hsl⟩ := hSl k hk
  have hlay := hts _ (hin _ (u_in_lay hk))
  unfold u_lay at hlay
  rw [if_pos hfin] at hlay
  have hst := (u_facts hfc hkC (u_lays hts hin hk) hi).1
  have hcf : m.cls = cf := by
    obtain ⟨_, _, c', _, _, _, -, -, hf', -, -, -, hown2, -⟩ := Cond.laysFinal_spec hlay
    have e1 : c' = cf := by have := hi.symm.trans hf'; simp at this; exact this.1.symm
    rw [href] at hown2
    rw [← e1]; exact Option.some.inj (hown.symm.trans hown2)
  have h6 := u_fits hfc hkC hkind (Or.inr hlay) hi (hty k hk) hn hfit
  refine W.putFinK hx hb hown (hts _ hlink) (by rw [href] at hi; exact hi) hst hcf hin2 (by rw [q2]; exact h6) q1 q3 (by rw [hsl]; exact k2_hasslot (q4 k hk)) rfl rfl hdg fun H' e1 e2 e3 => ?_
  rw [hsl] at e1 ⊢
  exact hgo H' _ e2 (P.1.set P.2.1 (zw_at hs) ⟨_, hc, t_OB.to (V := updV (vp_V _) k _) ⟨_, e1, q2, q3, t_set q4 hap hk _⟩ (fun j _ => vp_updV_set (by simp; exact hkl) _ j)⟩ e3) (P.2.1.set (zw_at hs)) (P.2.2.put e2 e3 (P.2.1.2 o _ (zw_at hs)))
end ZMM
