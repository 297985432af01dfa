theorem zo_i : Cond.instanceMethod objectInit ∈ ztb := zmem 96 (by decide +kernel) (by decide +kernel)
theorem zo_c : Cond.code objectInit ⟨#[0xb1]⟩ 1 none ∈ ztb := zmem 97 (by decide +kernel) (by decide +kernel)
theorem za_int : Cond.arrayClass .int ∈ ztb := zmem 116 (by decide +kernel) (by decide +kernel)
theorem za_long : Cond.arrayClass .long ∈ ztb := zmem 209 (by decide +kernel) (by decide +kernel)
theorem za_byte : Cond.arrayClass .byte ∈ ztb := zmem 151 (by decide +kernel) (by decide +kernel)
section ZMC
variable {p : Program} {l : Launch} {e : Env} {R : Room} {s : State} {m : MethodId} {args : Array Value} {below : List Frame} {meth : Method} {c : Code} {H : Heap} {locs : List Loc} {cells slots : Nat} {Q : State → Prop}
variable {cc bytes : ByteArray} {nL pc maxL fr lo mc ms : Nat} {own : String} {ret : Option FieldType} {D : va_G} {cA : Nat → ClassId} {A : Nat → Prop} {ls : Array Slot} {rest : List Value} {sh sh' : List Zc} {ad : Nat → Nat} {S S' : Zs} {index : Nat} {y : MethodName}
theorem zk_call (C : zCx p s m args meth c cc nL own ret D ad cA A) (P : zP D sh ad cA A S s H locs) (hz : H.size = ad sh.length) {o : Nat} (hM : zMk l y bytes maxL fr lo mc ms D ad cA sh sh' S S' [.ref (ad o)]) (w1 : Cond.methodLink own index y ∈ ztb) (w2 : Cond.instanceMethod y ∈ ztb) (w3 : Cond.initialized y.cls ∈ ztb) (w4 : Cond.code y bytes maxL none ∈ ztb) (w5 : y.name = "<init>") (w6 : y.cls ≠ "java/lang/invoke/MethodHandle" ∧ y.cls ≠ "java/lang/invoke/VarHandle" ∧ (parseMethodDescriptor y.desc).map (fun d => d.parameters.length) = some 0) (hroom : fr + 1 ≤ R.frames ∧ 8 + (maxL + 11) + lo ≤ R.locals) (hl : ls.size = nL) (hcat : (rest.map fun v => v.category).sum ≤ 8) (hdg : decode cc pc = .ok (.invokespecial index, 3)) (hf : cells + mc ≤ R.cells ∧ slots + ms ≤ R.slots)
    (kk : ∀ (H1 : Heap) (locs1 : List Loc), H1.size = ad sh'.length → zP D sh' ad cA A S' s H1 locs1 → W p l e R s m args below meth c H1 locs1 (cells + mc) (slots + ms) Q (F0 m (pc + 3) ls rest)) : W p l e R s m args below meth c H locs cells slots Q (F0 m pc ls (.ref (ad o) :: rest)) := by
  have hfr := zA_free P.2.1 P.2.2 C.2.2.2.2.2.2.1
  obtain ⟨hx, hb, hml, hown, hts, hK, hA, -, -, hSx⟩ := C
  have hg : GoodIn ztb (.code y bytes maxL none :: ztb) := zGood (fun w h => by
    rcases List.mem_cons.mp h with rfl | h
    · exact w4
    · exact h)
  refine va_callv (va_runI (As := []) (rest := rest) ⟨hx, hb, hml, hown, hts⟩ (hM H.size hz) (cwI 0 hts hg rfl rfl rfl (hts _ w3) (hts _ w1) (hts _ w2) w5 w6 hroom) ⟨zPc_blind, fun U hU hW => ⟨rfl, by rw [hU], by rw [hU]; exact P.1, va_K.moved hW.alike hK, P.2.1.weaken (fun _ _ _ _ => trivial), hSx.pass P.2.2 hU hW hfr⟩⟩ rfl rfl hl rfl (lv_room hcat) hdg hf) P.2.2 (fun q _ h => hfr q h) hfr (fun u t H1 locs1 ht hvm hp hB hz1 hk1 hS => ?_)
  obtain ⟨hz2, hP1, hK1, hD1⟩ := hB
  rw [ht] at hP1 hz2
  exact kk H1 locs1 hz2 ⟨hP1, hD1.weaken (fun _ q _ h => hfr q.1 h), hS⟩
theorem zk_iast (C : zCx p s m args meth c cc nL own ret D ad cA A) (P : zP D sh ad cA A S s H locs) (hz : H.size = ad sh.length) {q n : Nat} {rs : List Nat} (hs : sh[q]? = some (.inr (0, n, rs))) (hdg : decode cc pc = .ok (.iastore, 1)) {i v : Int32} (hi : inb i n = true)
    (kk : ∀ (H1 : Heap) (locs1 : List Loc), H1.size = ad sh.length → zP D sh ad cA A (zI S q i.toNatClampNeg v) s H1 locs1 → W p l e R s m args below meth c H1 locs1 cells slots Q (F0 m (pc + 1) ls rest)) : W p l e R s m args below meth c H locs cells slots Q (F0 m pc ls (.int v :: .int i :: .ref (ad q) :: rest)) := by
  obtain ⟨hx, hb, hml, hown, hts, hK, -⟩ := C
  refine W.iast hx hb (P.1 q _ (zw_at hs)) ((hK.2 0 (cA 0, .int) rfl).1 n (fun j => .int (S.1 q j))) (fun q => by cases q) (by show ¬ (i < 0 ∨ (arrV _ _ _).slots.size ≤ _); rw [arrV_size]; exact z_in hi) rfl rfl hdg fun H1 e z oq => ?_
  have hcell : va_at D zcl (ad q, .inl (cA 0, n, .inl (upd (S.1 q) i.toNatClampNeg v))) H1 := by
    show H1[ad q]? = some (vp_cell _ _)
    rw [e]
    show some ((vp_cell (cA 0) (n, .inl (S.1 q))).setSlot _ _) = _
    rw [vp_cell_i, vp_cell_i, arrV_store]
    congr 2
    funext q9
    by_cases hq : q9 = i.toNatClampNeg
    · subst hq
      simp [updV, upd]
    · simp [updV, upd, hq]
  have hP1 := P.1.set P.2.1 (zw_at hs) hcell oq
  have hD1 : va_D A _ := P.2.1.set (e := .inl (cA 0, n, .inl (upd (S.1 q) i.toNatClampNeg v))) (zw_at hs)
  rw [← zI_1 S q i.toNatClampNeg v, show ((ad q, (.inl (cA 0, n, .inl ((zI S q i.toNatClampNeg v).1 q)) : va_E)) : Nat × va_E) = (ad q, zcel ad cA (zI S q i.toNatClampNeg v) q (.inr (0, n, rs))) from rfl, zw_set hs (fun i9 y hi9 => zcel_eq (zI_1n S _ v hi9) rfl y)] at hP1 hD1
  exact kk H1 _ (by rw [z]; exact hz) ⟨hP1, hD1, P.2.2.put z oq (P.2.1.2 q _ (zw_at hs))⟩
theorem zk_putI (C : zCx p s m args meth c cc nL own ret D ad cA A) (P : zP D sh ad cA A S s H locs) (hz : H.size = ad sh.length) {ci N index : Nat} {Cn ref : String} {T : u_T} (hc : zcl[ci]? = some (Cn, T, N)) (hin : ∀ w ∈ u_ws Cn T N, w ∈ ztb) (ty0 : Nat → FieldType) (hty : ∀ k, k < N → parseFieldDescriptor (T k).2.2.1 = some (ty0 k)) (hnm : ∀ a, a < N → ∀ b, b < N → a ≠ b → (T a).2.1 ≠ (T b).2.1) (k : Nat) (hk : k < N) (href : (T k).1 = ref) (hfin : (T k).2.2.2 = false) (hlink : Cond.fieldLink own index ref (T k).2.1 (T k).2.2.1 ∈ ztb) {o : Nat} {fs : List Zf} (hs : sh[o]? = some (.inl (ci, fs))) (hf : fs[k]? = some (.inl 0)) (hdg : decode cc pc = .ok (.putfield index, 3)) {v : Int32} (hn : narrow (ty0 k) (.int v) = .int v) (hfit : fits (ty0 k) (.int v) = true)
    (kk : ∀ (H1 : Heap) (locs1 : List Loc), H1.size = ad sh.length → zP D sh ad cA A (zI S o k v) s H1 locs1 → W p l e R s m args below meth c H1 locs1 cells slots Q (F0 m (pc + 3) ls rest)) : W p l e R s m args below meth c H locs cells slots Q (F0 m pc ls (.int v :: .ref (ad o) :: rest)) := by
  subst href
  obtain ⟨hx, hb, hml, hown, hts, hK, -⟩ := C
  have hap := va_apart (own := own) hts hin ty0 hty hnm hK hc
  obtain ⟨r, h1, cell, q1, q2, q3, q4⟩ := P.1 o _ (zw_at hs)
  have hr : r = (Cn, T, N) := Option.some.inj (h1.symm.trans hc)
  subst hr
  obtain ⟨hSl, hfc, kC, hkC, hkind⟩ := hK.1 ci _ hc
  obtain ⟨cf, kf, fi, f, hi, hsl⟩ := hSl k hk
  have hlay := hts _ (hin _ (u_in_lay hk))
  unfold u_lay at hlay
  rw [if_neg (by rw [hfin]; decide)] at hlay
  have hst := (u_facts hfc hkC (u_lays hts hin hk) hi).1
  have h6 := u_store hfc hkC hkind hlay hi (hty k hk) hn hfit
  have hkl : k < fs.length := (List.getElem?_eq_some_iff.mp hf).1
  refine W.putK hx hb (f := f) ⟨hown, hts _ hlink, ⟨_, _, _, hi⟩, hst⟩ (by rw [q2]; exact h6) q1 q3 (by rw [hsl]; exact k2_hasslot (q4 k hk)) rfl rfl hdg fun H' e1 e2 e3 => ?_
  rw [hsl] at e1 ⊢
  have hP1 := P.1.set (e := .inr (ci, (fs.mapIdx (fun j f => zfv ad S o j f)).set k (.int v))) P.2.1 (zw_at hs) ⟨_, hc, t_OB.to (V := updV (vp_V _) k _) ⟨_, e1, q2, q3, t_set q4 hap hk _⟩ (fun j _ => vp_updV_set (by simp; exact hkl) _ j)⟩ e3
  have hD1 : va_D A _ := P.2.1.set (e := .inr (ci, (fs.mapIdx (fun j f => zfv ad S o j f)).set k (.int v))) (zw_at hs)
  rw [zfs_I hf, show ((ad o, (.inr (ci, fs.mapIdx (fun i f => zfv ad (zI S o k v) o i f)) : va_E)) : Nat × va_E) = (ad o, zcel ad cA (zI S o k v) o (.inl (ci, fs))) from rfl, zw_set hs (fun i9 y hi9 => zcel_eq (zI_1n S k v hi9) rfl y)] at hP1 hD1
  exact kk H' _ (by rw [e2]; exact hz) ⟨hP1, hD1, P.2.2.put e2 e3 (P.2.1.2 o _ (zw_at hs))⟩
theorem zk_putL (C : zCx p s m args meth c cc nL own ret D ad cA A) (P : zP D sh ad cA A S s H locs) (hz : H.size = ad sh.length) {ci N index : Nat} {Cn ref : String} {T : u_T} (hc : zcl[ci]? = some (Cn, T, N)) (hin : ∀ w ∈ u_ws Cn T N, w ∈ ztb) (ty0 : Nat → FieldType) (hty : ∀ k, k < N → parseFieldDescriptor (T k).2.2.1 = some (ty0 k)) (hnm : ∀ a, a < N → ∀ b, b < N → a ≠ b → (T a).2.1 ≠ (T b).2.1) (k : Nat) (hk : k < N) (href : (T k).1 = ref) (hfin : (T k).2.2.2 = false) (hlink : Cond.fieldLink own index ref (T k).2.1 (T k).2.2.1 ∈ ztb) {o : Nat} {fs : List Zf} (hs : sh[o]? = some (.inl (ci, fs))) (hf : fs[k]? = some (.inl 1)) (hdg : decode cc pc = .ok (.putfield index, 3)) {v : Int64} (hn : narrow (ty0 k) (.long v) = .long v) (hfit : fits (ty0 k) (.long v) = true)
    (kk : ∀ (H1 : Heap) (locs1 : List Loc), H1.size = ad sh.length → zP D sh ad cA A (zL S o k v) s H1 locs1 → W p l e R s m args below meth c H1 locs1 cells slots Q (F0 m (pc + 3) ls rest)) : W p l e R s m args below meth c H locs cells slots Q (F0 m pc ls (.long v :: .ref (ad o) :: rest)) := by
  subst href
  obtain ⟨hx, hb, hml, hown, hts, hK, -⟩ := C
  have hap := va_apart (own := own) hts hin ty0 hty hnm hK hc
  obtain ⟨r, h1, cell, q1, q2, q3, q4⟩ := P.1 o _ (zw_at hs)
  have hr : r = (Cn, T, N) := Option.some.inj (h1.symm.trans hc)
  subst hr
  obtain ⟨hSl, hfc, kC, hkC, hkind⟩ := hK.1 ci _ hc
  obtain ⟨cf, kf, fi, f, hi, hsl⟩ := hSl k hk
  have hlay := hts _ (hin _ (u_in_lay hk))
  unfold u_lay at hlay
  rw [if_neg (by rw [hfin]; decide)] at hlay
  have hst := (u_facts hfc hkC (u_lays hts hin hk) hi).1
  have h6 := u_store hfc hkC hkind hlay hi (hty k hk) hn hfit
  have hkl : k < fs.length := (List.getElem?_eq_some_iff.mp hf).1
  refine W.putK hx hb (f := f) ⟨hown, hts _ hlink, ⟨_, _, _, hi⟩, hst⟩ (by rw [q2]; exact h6) q1 q3 (by rw [hsl]; exact k2_hasslot (q4 k hk)) rfl rfl hdg fun H' e1 e2 e3 => ?_
  rw [hsl] at e1 ⊢
  have hP1 := P.1.set (e := .inr (ci, (fs.mapIdx (fun j f => zfv ad S o j f)).set k (.long v))) P.2.1 (zw_at hs) ⟨_, hc, t_OB.to (V := updV (vp_V _) k _) ⟨_, e1, q2, q3, t_set q4 hap hk _⟩ (fun j _ => vp_updV_set (by simp; exact hkl) _ j)⟩ e3
  have hD1 : va_D A _ := P.2.1.set (e := .inr (ci, (fs.mapIdx (fun j f => zfv ad S o j f)).set k (.long v))) (zw_at hs)
  rw [zfs_L hf, show ((ad o, (.inr (ci, fs.mapIdx (fun i f => zfv ad (zL S o k v) o i f)) : va_E)) : Nat × va_E) = (ad o, zcel ad cA (zL S o k v) o (.inl (ci, fs))) from rfl, zw_set (S := S) (S' := zL S o k v) hs (fun i9 y hi9 => zcel_eq (S := S) (S' := zL S o k v) rfl (zL_2n S k v hi9) y)] at hP1 hD1
  exact kk H' _ (by rw [e2]; exact hz) ⟨hP1, hD1, P.2.2.put e2 e3 (P.2.1.2 o _ (zw_at hs))⟩
end ZMC
