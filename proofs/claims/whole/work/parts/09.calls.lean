/-! calls: the callee gets the whole world -/
theorem zA_free {sh : List Zc} {ad : Nat → Nat} {cA : Nat → ClassId} {A : Nat → Prop} {S : Zs} {H0 H : Heap} {locs : List Loc} (hD : va_D A (zw sh ad cA S)) (hS : va_S A H0 H locs) (hA : ∀ q, H0.size ≤ q → A q) : ∀ q, zA sh ad cA S H.size q → A q := by
  intro q h
  rcases h with ⟨k, e, h⟩ | h
  · exact hD.2 k (q, e) h
  · exact hA q (Nat.le_trans hS.1 h)
theorem zPc_blind {D : va_G} {sh : List Zc} {ad : Nat → Nat} {cA : Nat → ClassId} {sz : Nat} {S : Zs} {av : List Value} : FrameBlind (zPc D sh ad cA sz S av) := fun a U g mk q => by
  obtain ⟨q0, q1, qP, qK, qD, qS⟩ := q
  exact ⟨q0, q1, qP, va_K.moved (u := U) (U := U.calling g mk a) (Vm.Alike.refl U.vm) qK, qD, zSx.same (u := U) (U := U.calling g mk a) rfl qS⟩
/-- the words of a call -/
def zWV (own : String) (index : Nat) (C : String) (y : MethodName) (bytes : ByteArray) (maxL : Nat) (ret : Option FieldType) (n : Nat) : Prop :=
  Cond.methodLink own index y ∈ ztb ∧ Cond.instanceMethod y ∈ ztb ∧ Cond.selects C y y ∈ ztb ∧ Cond.initialized C ∈ ztb ∧ Cond.code y bytes maxL ret ∈ ztb ∧ (y.cls = C ∧ y.cls ≠ "java/lang/invoke/MethodHandle" ∧ y.cls ≠ "java/lang/invoke/VarHandle" ∧ (parseMethodDescriptor y.desc).map (fun d => d.parameters.length) = some n)
def zWS (own : String) (index : Nat) (y : MethodName) (bytes : ByteArray) (maxL : Nat) (ret : Option FieldType) (n : Nat) : Prop :=
  Cond.methodLink own index y ∈ ztb ∧ Cond.static y ∈ ztb ∧ Cond.initialized y.cls ∈ ztb ∧ Cond.code y bytes maxL ret ∈ ztb ∧ (y.cls ≠ "java/lang/invoke/MethodHandle" ∧ y.cls ≠ "java/lang/invoke/VarHandle" ∧ (parseMethodDescriptor y.desc).map (fun d => d.parameters.length) = some n)
section ZC
variable {p : Program} {l : Launch} {e : Env} {R : Room} {s : State} {m : MethodId} {args : Array Value} {below : List Frame} {meth : Method} {c : Code} {H : Heap} {locs : List Loc} {cells slots : Nat} {Q : State → Prop}
variable {cc bytes : ByteArray} {nL pc maxL fr lo n index : Nat} {own Cn : String} {ret ret2 : Option FieldType} {D : va_G} {cA : Nat → ClassId} {A : Nat → Prop} {ls : Array Slot} {rest st0 : List Value} {sh : List Zc} {ad : Nat → Nat} {S : Zs} {y : MethodName} {As : List Value}
theorem z_runV {Qc : (Nat → Prop) → Array Value → State → Outcome → State → Prop} (C : zCx p s m args meth c cc nL own ret2 D ad cA A) (P : zP D sh ad cA A S s H locs) {o ci N : Nat} {T : u_T} {fs : List Zf} (hM : ∀ sz : Nat, Met l y (.code y bytes maxL ret :: ztb) (zrm fr lo) (zPc D sh ad cA sz S (.ref (ad o) :: As)) (Qc (zA sh ad cA S sz)) 0 0 (zA sh ad cA S sz)) (hw : zWV own index Cn y bytes maxL ret n) (hc : zcl[ci]? = some (Cn, T, N)) (hs : sh[o]? = some (.inl (ci, fs))) (hn : As.length = n) (hroom : fr + 1 ≤ R.frames ∧ 8 + (maxL + 11) + lo ≤ R.locals) (hl : ls.size = nL) (hst : st0 = As.reverse ++ .ref (ad o) :: rest) (hcat : (rest.map fun v => v.category).sum ≤ 8) (hdg : decode cc pc = .ok (.invokevirtual index, 3)) (hf : cells ≤ R.cells ∧ slots ≤ R.slots) :
    va_Run p l e R s m args below meth c H locs cells slots 0 0 (F0 m pc ls st0) rest (Qc (zA sh ad cA S H.size) (Value.ref (ad o) :: As).toArray) (zA sh ad cA S H.size) := by
  obtain ⟨hx, hb, hml, hown, hts, hK, hA, -, -, hSx⟩ := C
  obtain ⟨w1, w2, w3, w4, w5, w6⟩ := hw
  have hg : GoodIn ztb (wsV own index Cn y (.code y bytes maxL ret :: ztb)) := zGood (fun w h => by
    rcases List.mem_append.mp h with h | h
    · simp only [List.mem_cons, List.not_mem_nil, or_false] at h
      rcases h with rfl | rfl | rfl | rfl <;> assumption
    · rcases List.mem_cons.mp h with rfl | h
      · exact w5
      · exact h)
  exact va_runV (As := As) (rest := rest) ⟨hx, hb, hml, hown, hts⟩ (hM H.size) (cwV n hts hg rfl rfl rfl w6 hroom) ⟨zPc_blind, va_recv hK P.1 (ci := ci) (q0 := o) hc (zw_at hs), fun U hU hW => ⟨rfl, by rw [hU], by rw [hU]; exact P.1, va_K.moved hW.alike hK, P.2.1.weaken (fun _ _ _ _ => trivial), hSx.pass P.2.2 hU hW (zA_free P.2.1 P.2.2 hA)⟩⟩ rfl hn hl hst (lv_room hcat) hdg hf
theorem z_runS {Qc : (Nat → Prop) → Array Value → State → Outcome → State → Prop} (C : zCx p s m args meth c cc nL own ret2 D ad cA A) (P : zP D sh ad cA A S s H locs) (hM : ∀ sz : Nat, Met l y (.code y bytes maxL ret :: ztb) (zrm fr lo) (zPc D sh ad cA sz S As) (Qc (zA sh ad cA S sz)) 0 0 (zA sh ad cA S sz)) (hw : zWS own index y bytes maxL ret n) (hn : As.length = n) (hroom : fr + 1 ≤ R.frames ∧ 8 + (maxL + 11) + lo ≤ R.locals) (hl : ls.size = nL) (hst : st0 = As.reverse ++ rest) (hcat : (rest.map fun v => v.category).sum ≤ 8) (hdg : decode cc pc = .ok (.invokestatic index, 3)) (hf : cells ≤ R.cells ∧ slots ≤ R.slots) :
    va_Run p l e R s m args below meth c H locs cells slots 0 0 (F0 m pc ls st0) rest (Qc (zA sh ad cA S H.size) As.toArray) (zA sh ad cA S H.size) := by
  obtain ⟨hx, hb, hml, hown, hts, hK, hA, -, -, hSx⟩ := C
  obtain ⟨w1, w2, w3, w4, w6⟩ := hw
  have hg : GoodIn ztb (.code y bytes maxL ret :: ztb) := zGood (fun w h => by
    rcases List.mem_cons.mp h with rfl | h
    · exact w4
    · exact h)
  exact va_runS (As := As) (rest := rest) ⟨hx, hb, hml, hown, hts⟩ (hM H.size) ⟨callB_of n hts hg rfl rfl rfl (hts _ w3) (hts _ w1) w6 hroom, hts _ w2⟩ ⟨zPc_blind, fun U hU hW => ⟨rfl, by rw [hU], by rw [hU]; exact P.1, va_K.moved hW.alike hK, P.2.1.weaken (fun _ _ _ _ => trivial), hSx.pass P.2.2 hU hW (zA_free P.2.1 P.2.2 hA)⟩⟩ rfl hn hl hst (lv_room hcat) hdg hf
theorem z_callVi (C : zCx p s m args meth c cc nL own ret2 D ad cA A) (P : zP D sh ad cA A S s H locs) {o ci N : Nat} {T : u_T} {fs : List Zf} {r : Int32} {S' : Zs} (hM : zMi l y bytes maxL fr lo D sh ad cA S (.ref (ad o) :: As) (r, S')) (hw : zWV own index Cn y bytes maxL (some .int) n) (hc : zcl[ci]? = some (Cn, T, N)) (hs : sh[o]? = some (.inl (ci, fs))) (hn : As.length = n) (hroom : fr + 1 ≤ R.frames ∧ 8 + (maxL + 11) + lo ≤ R.locals) (hl : ls.size = nL) (hst : st0 = As.reverse ++ .ref (ad o) :: rest) (hcat : (rest.map fun v => v.category).sum ≤ 8) (hdg : decode cc pc = .ok (.invokevirtual index, 3)) (hf : cells ≤ R.cells ∧ slots ≤ R.slots)
    (kk : ∀ (H1 : Heap) (locs1 : List Loc), zP D sh ad cA A S' s H1 locs1 → W p l e R s m args below meth c H1 locs1 cells slots Q (F0 m (pc + 3) ls (.int r :: rest))) : W p l e R s m args below meth c H locs cells slots Q (F0 m pc ls st0) := by
  have hfr := zA_free P.2.1 P.2.2 C.2.2.2.2.2.2.1
  refine va_calli (z_runV (Qc := fun A => zQi D sh ad cA A (r, S')) C P hM hw hc hs hn hroom hl hst hcat hdg hf) P.2.2 (fun q _ h => hfr q h) hfr (fun r1 S1 t H1 locs1 ht hvm hp hB hz1 hk1 hS => ?_)
  obtain ⟨rfl, rfl⟩ := hp
  obtain ⟨hP1, hK1, hD1⟩ := hB
  rw [ht] at hP1
  exact kk H1 locs1 ⟨hP1, hD1.weaken (fun _ q _ h => hfr q.1 h), hS⟩
theorem z_callSi (C : zCx p s m args meth c cc nL own ret2 D ad cA A) (P : zP D sh ad cA A S s H locs) {r : Int32} {S' : Zs} (hM : zMi l y bytes maxL fr lo D sh ad cA S As (r, S')) (hw : zWS own index y bytes maxL (some .int) n) (hn : As.length = n) (hroom : fr + 1 ≤ R.frames ∧ 8 + (maxL + 11) + lo ≤ R.locals) (hl : ls.size = nL) (hst : st0 = As.reverse ++ rest) (hcat : (rest.map fun v => v.category).sum ≤ 8) (hdg : decode cc pc = .ok (.invokestatic index, 3)) (hf : cells ≤ R.cells ∧ slots ≤ R.slots)
    (kk : ∀ (H1 : Heap) (locs1 : List Loc), zP D sh ad cA A S' s H1 locs1 → W p l e R s m args below meth c H1 locs1 cells slots Q (F0 m (pc + 3) ls (.int r :: rest))) : W p l e R s m args below meth c H locs cells slots Q (F0 m pc ls st0) := by
  have hfr := zA_free P.2.1 P.2.2 C.2.2.2.2.2.2.1
  refine va_calli (z_runS (Qc := fun A => zQi D sh ad cA A (r, S')) C P hM hw hn hroom hl hst hcat hdg hf) P.2.2 (fun q _ h => hfr q h) hfr (fun r1 S1 t H1 locs1 ht hvm hp hB hz1 hk1 hS => ?_)
  obtain ⟨rfl, rfl⟩ := hp
  obtain ⟨hP1, hK1, hD1⟩ := hB
  rw [ht] at hP1
  exact kk H1 locs1 ⟨hP1, hD1.weaken (fun _ q _ h => hfr q.1 h), hS⟩
theorem z_callVb (C : zCx p s m args meth c cc nL own ret2 D ad cA A) (P : zP D sh ad cA A S s H locs) {o ci N : Nat} {T : u_T} {fs : List Zf} {r : Int32} {S' : Zs} (hM : zMb l y bytes maxL fr lo D sh ad cA S (.ref (ad o) :: As) (r, S')) (hw : zWV own index Cn y bytes maxL (some .boolean) n) (hc : zcl[ci]? = some (Cn, T, N)) (hs : sh[o]? = some (.inl (ci, fs))) (hn : As.length = n) (hroom : fr + 1 ≤ R.frames ∧ 8 + (maxL + 11) + lo ≤ R.locals) (hl : ls.size = nL) (hst : st0 = As.reverse ++ .ref (ad o) :: rest) (hcat : (rest.map fun v => v.category).sum ≤ 8) (hdg : decode cc pc = .ok (.invokevirtual index, 3)) (hf : cells ≤ R.cells ∧ slots ≤ R.slots)
    (kk : ∀ (H1 : Heap) (locs1 : List Loc), narrow .boolean (.int r) = .int r → zP D sh ad cA A S' s H1 locs1 → W p l e R s m args below meth c H1 locs1 cells slots Q (F0 m (pc + 3) ls (.int r :: rest))) : W p l e R s m args below meth c H locs cells slots Q (F0 m pc ls st0) := by
  have hfr := zA_free P.2.1 P.2.2 C.2.2.2.2.2.2.1
  refine va_calli (z_runV (Qc := fun A => zQb D sh ad cA A (r, S')) C P hM hw hc hs hn hroom hl hst hcat hdg hf) P.2.2 (fun q _ h => hfr q h) hfr (fun r1 S1 t H1 locs1 ht hvm hp hB hz1 hk1 hS => ?_)
  obtain ⟨rfl, rfl⟩ := hp.1
  obtain ⟨hP1, hK1, hD1⟩ := hB
  rw [ht] at hP1
  exact kk H1 locs1 hp.2 ⟨hP1, hD1.weaken (fun _ q _ h => hfr q.1 h), hS⟩
theorem z_callSb (C : zCx p s m args meth c cc nL own ret2 D ad cA A) (P : zP D sh ad cA A S s H locs) {r : Int32} {S' : Zs} (hM : zMb l y bytes maxL fr lo D sh ad cA S As (r, S')) (hw : zWS own index y bytes maxL (some .boolean) n) (hn : As.length = n) (hroom : fr + 1 ≤ R.frames ∧ 8 + (maxL + 11) + lo ≤ R.locals) (hl : ls.size = nL) (hst : st0 = As.reverse ++ rest) (hcat : (rest.map fun v => v.category).sum ≤ 8) (hdg : decode cc pc = .ok (.invokestatic index, 3)) (hf : cells ≤ R.cells ∧ slots ≤ R.slots)
    (kk : ∀ (H1 : Heap) (locs1 : List Loc), narrow .boolean (.int r) = .int r → zP D sh ad cA A S' s H1 locs1 → W p l e R s m args below meth c H1 locs1 cells slots Q (F0 m (pc + 3) ls (.int r :: rest))) : W p l e R s m args below meth c H locs cells slots Q (F0 m pc ls st0) := by
  have hfr := zA_free P.2.1 P.2.2 C.2.2.2.2.2.2.1
  refine va_calli (z_runS (Qc := fun A => zQb D sh ad cA A (r, S')) C P hM hw hn hroom hl hst hcat hdg hf) P.2.2 (fun q _ h => hfr q h) hfr (fun r1 S1 t H1 locs1 ht hvm hp hB hz1 hk1 hS => ?_)
  obtain ⟨rfl, rfl⟩ := hp.1
  obtain ⟨hP1, hK1, hD1⟩ := hB
  rw [ht] at hP1
  exact kk H1 locs1 hp.2 ⟨hP1, hD1.weaken (fun _ q _ h => hfr q.1 h), hS⟩
theorem z_callVl (C : zCx p s m args meth c cc nL own ret2 D ad cA A) (P : zP D sh ad cA A S s H locs) {o ci N : Nat} {T : u_T} {fs : List Zf} {r : Int64} {S' : Zs} (hM : zMl l y bytes maxL fr lo D sh ad cA S (.ref (ad o) :: As) (r, S')) (hw : zWV own index Cn y bytes maxL (some .long) n) (hc : zcl[ci]? = some (Cn, T, N)) (hs : sh[o]? = some (.inl (ci, fs))) (hn : As.length = n) (hroom : fr + 1 ≤ R.frames ∧ 8 + (maxL + 11) + lo ≤ R.locals) (hl : ls.size = nL) (hst : st0 = As.reverse ++ .ref (ad o) :: rest) (hcat : (rest.map fun v => v.category).sum ≤ 8) (hdg : decode cc pc = .ok (.invokevirtual index, 3)) (hf : cells ≤ R.cells ∧ slots ≤ R.slots)
    (kk : ∀ (H1 : Heap) (locs1 : List Loc), zP D sh ad cA A S' s H1 locs1 → W p l e R s m args below meth c H1 locs1 cells slots Q (F0 m (pc + 3) ls (.long r :: rest))) : W p l e R s m args below meth c H locs cells slots Q (F0 m pc ls st0) := by
  have hfr := zA_free P.2.1 P.2.2 C.2.2.2.2.2.2.1
  refine va_calll (z_runV (Qc := fun A => zQl D sh ad cA A (r, S')) C P hM hw hc hs hn hroom hl hst hcat hdg hf) P.2.2 (fun q _ h => hfr q h) hfr (fun r1 S1 t H1 locs1 ht hvm hp hB hz1 hk1 hS => ?_)
  obtain ⟨rfl, rfl⟩ := hp
  obtain ⟨hP1, hK1, hD1⟩ := hB
  rw [ht] at hP1
  exact kk H1 locs1 ⟨hP1, hD1.weaken (fun _ q _ h => hfr q.1 h), hS⟩
theorem z_callSl (C : zCx p s m args meth c cc nL own ret2 D ad cA A) (P : zP D sh ad cA A S s H locs) {r : Int64} {S' : Zs} (hM : zMl l y bytes maxL fr lo D sh ad cA S As (r, S')) (hw : zWS own index y bytes maxL (some .long) n) (hn : As.length = n) (hroom : fr + 1 ≤ R.frames ∧ 8 + (maxL + 11) + lo ≤ R.locals) (hl : ls.size = nL) (hst : st0 = As.reverse ++ rest) (hcat : (rest.map fun v => v.category).sum ≤ 8) (hdg : decode cc pc = .ok (.invokestatic index, 3)) (hf : cells ≤ R.cells ∧ slots ≤ R.slots)
    (kk : ∀ (H1 : Heap) (locs1 : List Loc), zP D sh ad cA A S' s H1 locs1 → W p l e R s m args below meth c H1 locs1 cells slots Q (F0 m (pc + 3) ls (.long r :: rest))) : W p l e R s m args below meth c H locs cells slots Q (F0 m pc ls st0) := by
  have hfr := zA_free P.2.1 P.2.2 C.2.2.2.2.2.2.1
  refine va_calll (z_runS (Qc := fun A => zQl D sh ad cA A (r, S')) C P hM hw hn hroom hl hst hcat hdg hf) P.2.2 (fun q _ h => hfr q h) hfr (fun r1 S1 t H1 locs1 ht hvm hp hB hz1 hk1 hS => ?_)
  obtain ⟨rfl, rfl⟩ := hp
  obtain ⟨hP1, hK1, hD1⟩ := hB
  rw [ht] at hP1
  exact kk H1 locs1 ⟨hP1, hD1.weaken (fun _ q _ h => hfr q.1 h), hS⟩
theorem z_callVv (C : zCx p s m args meth c cc nL own ret2 D ad cA A) (P : zP D sh ad cA A S s H locs) {o ci N : Nat} {T : u_T} {fs : List Zf} {S' : Zs} (hM : zMv l y bytes maxL fr lo D sh ad cA S (.ref (ad o) :: As) S') (hw : zWV own index Cn y bytes maxL none n) (hc : zcl[ci]? = some (Cn, T, N)) (hs : sh[o]? = some (.inl (ci, fs))) (hn : As.length = n) (hroom : fr + 1 ≤ R.frames ∧ 8 + (maxL + 11) + lo ≤ R.locals) (hl : ls.size = nL) (hst : st0 = As.reverse ++ .ref (ad o) :: rest) (hcat : (rest.map fun v => v.category).sum ≤ 8) (hdg : decode cc pc = .ok (.invokevirtual index, 3)) (hf : cells ≤ R.cells ∧ slots ≤ R.slots)
    (kk : ∀ (H1 : Heap) (locs1 : List Loc), zP D sh ad cA A S' s H1 locs1 → W p l e R s m args below meth c H1 locs1 cells slots Q (F0 m (pc + 3) ls rest)) : W p l e R s m args below meth c H locs cells slots Q (F0 m pc ls st0) := by
  have hfr := zA_free P.2.1 P.2.2 C.2.2.2.2.2.2.1
  refine va_callv (z_runV (Qc := fun A => zQv D sh ad cA A S') C P hM hw hc hs hn hroom hl hst hcat hdg hf) P.2.2 (fun q _ h => hfr q h) hfr (fun S1 t H1 locs1 ht hvm hp hB hz1 hk1 hS => ?_)
  subst hp
  obtain ⟨hP1, hK1, hD1⟩ := hB
  rw [ht] at hP1
  exact kk H1 locs1 ⟨hP1, hD1.weaken (fun _ q _ h => hfr q.1 h), hS⟩
theorem z_callSv (C : zCx p s m args meth c cc nL own ret2 D ad cA A) (P : zP D sh ad cA A S s H locs) {S' : Zs} (hM : zMv l y bytes maxL fr lo D sh ad cA S As S') (hw : zWS own index y bytes maxL none n) (hn : As.length = n) (hroom : fr + 1 ≤ R.frames ∧ 8 + (maxL + 11) + lo ≤ R.locals) (hl : ls.size = nL) (hst : st0 = As.reverse ++ rest) (hcat : (rest.map fun v => v.category).sum ≤ 8) (hdg : decode cc pc = .ok (.invokestatic index, 3)) (hf : cells ≤ R.cells ∧ slots ≤ R.slots)
    (kk : ∀ (H1 : Heap) (locs1 : List Loc), zP D sh ad cA A S' s H1 locs1 → W p l e R s m args below meth c H1 locs1 cells slots Q (F0 m (pc + 3) ls rest)) : W p l e R s m args below meth c H locs cells slots Q (F0 m pc ls st0) := by
  have hfr := zA_free P.2.1 P.2.2 C.2.2.2.2.2.2.1
  refine va_callv (z_runS (Qc := fun A => zQv D sh ad cA A S') C P hM hw hn hroom hl hst hcat hdg hf) P.2.2 (fun q _ h => hfr q h) hfr (fun S1 t H1 locs1 ht hvm hp hB hz1 hk1 hS => ?_)
  subst hp
  obtain ⟨hP1, hK1, hD1⟩ := hB
  rw [ht] at hP1
  exact kk H1 locs1 ⟨hP1, hD1.weaken (fun _ q _ h => hfr q.1 h), hS⟩
end ZC
theorem bd1_some {α γ : Type} {x : Option α} {k : α → Option γ} {z : γ} (h : bd1 x k = some z) : ∃ a, x = some a ∧ k a = some z := by
  cases x with
  | none => cases h
  | some a => exact ⟨a, rfl, h⟩
theorem bd2_some {α β γ : Type} {x : Option (α × β)} {k : α → β → Option γ} {z : γ} (h : bd2 x k = some z) : ∃ a b, x = some (a, b) ∧ k a b = some z := by
  cases x with
  | none => cases h
  | some a => exact ⟨a.1, a.2, rfl, h⟩
