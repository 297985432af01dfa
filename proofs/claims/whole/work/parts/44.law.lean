/-! THE CLAIM OUT OF ONE WALK OF THE LAW'S BODY. Your part is whole_start (and what it stands on); all else here is the same for every law, but numbers. -/
def R_law : String := "LandGoodsLaw"
def lw_P (b : Addr) (xs : List Int32) (args : Array Value) (s : State) : Prop := args = #[.ref b] ∧ s.IntsAt b xs ∧ xs.length ≤ 3072 ∧ (Jvm.Cond.and given_1 narrow_1).before args s = true
def lw_Q (_ : Array Value) (s : State) (o : Outcome) (t : State) : Prop := o = .returned (some (.int 1)) ∧ Framed s o t [] 600000 7302249
def lw_Z (below : List Frame) (a : Array Value) (s : State) : State → Prop := fun t => ∃ o, t.status = .running ∧ Ended t below o ∧ lw_Q a s o t
/-- the law's own end, with 1 on the stack, nothing written that was there before, its room as the claim has it -/
theorem lw_ret {p : Program} {l : Launch} {e : Env} {s : State} {m : MethodId} {below : List Frame} {meth : Method} {c : Code} {b : Nat} (hx : p.tables.exec = Jvm.exec) (hb : c.code = code) (hr : meth.sig.returnType = ret) (hlocks : meth.locks = false) {pc : Nat} {H : Heap} {ls : Array Slot} (hdg : decode code pc = .ok (.ireturn, 1)) : W p l e room_1 s m #[Value.ref b] below meth c H [] 600000 7302249 (lw_Z below #[Value.ref b] s) (F0 m pc ls [.int 1]) := by
  intro T hT X
  obtain ⟨fs, hret, hrun, hended, hW, hframe⟩ := X.leave (v := some (.int 1)) (hlocks := hlocks) (fun h => by rw [hr] at h; cases h)
  have hmeth' : T.vm.method? m = some meth := X.method'
  refine ⟨T.setFrames fs, ?_, .returned (some (.int 1)), hrun, hended, rfl, ⟨_, rfl⟩, hW, hframe⟩
  jvm_step X.here [X.here.top, hx, hb, hdg, hmeth', hr, ret, narrow_b1]
  (try refine ⟨rfl, ?_⟩); (try refine ⟨rfl, ?_⟩)
  first | (intro acts; rw [hret _ acts rfl rfl rfl]) | rw [hret _ _ rfl rfl rfl]
  exact Steps.refl _
/-- what holds at the law's entry: the machine, the code, the tables' words (any of lw_tbl by 'hts w (by decide +kernel)'), the script of L ints xs at the cell b, what the Statement gives of the start (any of its parts by flat_of_before) -/
def lw_At (p : Program) (s : State) (m : MethodId) (meth : Method) (c : Code) (b L : Nat) (xs : Nat → Int32) : Prop :=
  p.tables.exec = Jvm.exec ∧ c.code = code ∧ meth.sig.returnType = ret ∧ c.maxLocals = 4 ∧ s.vm.findClass R_law = some m.cls ∧ (∀ w ∈ lw_tbl, w.before #[Value.ref b] s = true) ∧ va_X b L xs s s.heap ∧ b < s.heap.size ∧ meth.locks = false ∧ (Jvm.Cond.and given_1 narrow_1).before #[Value.ref b] s = true
/-- what the functions owe: each call, from two worlds that agree, gives one answer, and two worlds that agree -/
def zSim (I : Zs → Zs → Prop) : Prop :=
  (∀ (SC SM : Zs) (x1 : Int32) (x2 : Int32) (x3 : Int32), I SC SM → ∃ (r : Int64) (SC' SM' : Zs), (f6_row x1 x2 x3 SC = some (r, SC')) ∧ (f7_row x1 x2 x3 SM = some (r, SM')) ∧ I SC' SM') ∧
  (∀ (SC SM : Zs) (x1 : Int32) (x2 : Int32) (x3 : Int32), I SC SM → ∃ (r : Int64) (SC' SM' : Zs), (f6_set x1 x2 x3 SC = some (r, SC')) ∧ (f7_set x1 x2 x3 SM = some (r, SM')) ∧ I SC' SM') ∧
  (∀ (SC SM : Zs) (x1 : Int32) (x2 : Int32) (x3 : Int32) (x4 : Int32) (x5 : Int32), I SC SM → ∃ (r : Int64) (SC' SM' : Zs), (f6_copy x1 x2 x3 x4 x5 SC = some (r, SC')) ∧ (f7_copy x1 x2 x3 x4 x5 SM = some (r, SM')) ∧ I SC' SM') ∧
  (∀ (SC SM : Zs) (x1 : Int32), I SC SM → ∃ (r : Int64) (SC' SM' : Zs), (f6_drop x1 SC = some (r, SC')) ∧ (f7_drop x1 SM = some (r, SM')) ∧ I SC' SM') ∧
  (∀ (SC SM : Zs) (x1 : Int64) (x2 : Int32), I SC SM → ∃ (r : Int64) (SC' SM' : Zs), (f6_feed x1 x2 SC = some (r, SC')) ∧ (f7_feed x1 x2 SM = some (r, SM')) ∧ I SC' SM') ∧
  (∀ (SC SM : Zs), I SC SM → ∃ (r : Int64) (SC' SM' : Zs), (f6_world SC = some (r, SC')) ∧ (f7_world SM = some (r, SM')) ∧ I SC' SM') ∧
  (∀ (SC SM : Zs), I SC SM → ∃ (r : Int32) (SC' SM' : Zs), (f6_fault SC = r ∧ SC' = SC) ∧ (f7_fault SM = some (r, SM')) ∧ I SC' SM') ∧
  (∀ (SC SM : Zs) (x1 : Int32) (x2 : Int32) (x3 : Int32), I SC SM → ∃ (r : Int64) (SC' SM' : Zs), (f6_told SC x1 x2 x3 = some r ∧ SC' = SC) ∧ (f7_told x1 x2 x3 SM = some (r, SM')) ∧ I SC' SM') ∧
  (∀ (SC SM : Zs) (x1 : Int32) (x2 : Int32), I SC SM → ∃ (r : Int64) (SC' SM' : Zs), (f6_wage SC x1 x2 = some r ∧ SC' = SC) ∧ (f7_wage x1 x2 SM = some (r, SM')) ∧ I SC' SM') ∧
  (∀ (SC SM : Zs) (x1 : Int32) (x2 : Int32), I SC SM → ∃ (r : Int64) (SC' SM' : Zs), (f6_price SC x1 x2 = some r ∧ SC' = SC) ∧ (f7_price x1 x2 SM = some (r, SM')) ∧ I SC' SM') ∧
  (∀ (SC SM : Zs) (x1 : Int32) (x2 : Int32) (x3 : Int32), I SC SM → ∃ (r : Int64) (SC' SM' : Zs), (f6_gain SC x1 x2 x3 = some r ∧ SC' = SC) ∧ (f7_gain x1 x2 x3 SM = some (r, SM')) ∧ I SC' SM') ∧
  (∀ (SC SM : Zs) (x1 : Int32) (x2 : Int32), I SC SM → ∃ (r : Int64) (SC' SM' : Zs), (f6_judge x1 x2 SC = some (r, SC')) ∧ (f7_judge x1 x2 SM = some (r, SM')) ∧ I SC' SM') ∧
  (∀ (SC SM : Zs) (x1 : Int32) (x2 : Int32) (x3 : Int32), I SC SM → ∃ (r : Int64) (SC' SM' : Zs), (f6_chain x1 x2 x3 SC = some (r, SC')) ∧ (f7_chain x1 x2 x3 SM = some (r, SM')) ∧ I SC' SM') ∧
  (∀ (SC SM : Zs) (x1 : Int32) (x2 : Int32), I SC SM → ∃ (r : Int64) (SC' SM' : Zs), (f6_more x1 x2 SC = some (r, SC')) ∧ (f7_more x1 x2 SM = some (r, SM')) ∧ I SC' SM') ∧
  (∀ (SC SM : Zs) (x1 : Int32) (x2 : Int32) (x3 : Int32), I SC SM → ∃ (r : Int64) (SC' SM' : Zs), (f6_stays SC x1 x2 x3 = some r ∧ SC' = SC) ∧ (f7_stays x1 x2 x3 SM = some (r, SM')) ∧ I SC' SM') ∧
  (∀ (SC SM : Zs) (x1 : Int32) (x2 : Int32) (x3 : Int32), I SC SM → ∃ (r : Int64) (SC' SM' : Zs), (f6_learn x1 x2 x3 SC = some (r, SC')) ∧ (f7_learn x1 x2 x3 SM = some (r, SM')) ∧ I SC' SM') ∧
  (∀ (SC SM : Zs) (x1 : Int32), I SC SM → ∃ (r : Int64) (SC' SM' : Zs), (f6_on SC x1 = some r ∧ SC' = SC) ∧ (f7_on x1 SM = some (r, SM')) ∧ I SC' SM') ∧
  (∀ (SC SM : Zs) (x1 : Int32) (x2 : Int32), I SC SM → ∃ (r : Int64) (SC' SM' : Zs), (f6_edge x1 x2 SC = some (r, SC')) ∧ (f7_edge x1 x2 SM = some (r, SM')) ∧ I SC' SM') ∧
  (∀ (SC SM : Zs) (x1 : Int32), I SC SM → ∃ (r : Int64) (SC' SM' : Zs), (f6_move x1 SC = some (r, SC')) ∧ (f7_move x1 SM = some (r, SM')) ∧ I SC' SM') ∧
  (∀ (SC SM : Zs) (x1 : Int32), I SC SM → ∃ (r : Int64) (SC' SM' : Zs), (f6_kind SC x1 = some r ∧ SC' = SC) ∧ (f7_kind x1 SM = some (r, SM')) ∧ I SC' SM') ∧
  (∀ (SC SM : Zs) (x1 : Int32) (x2 : Int32), I SC SM → ∃ (r : Int64) (SC' SM' : Zs), (f6_as x1 x2 SC = some (r, SC')) ∧ (f7_as x1 x2 SM = some (r, SM')) ∧ I SC' SM') ∧
  (∀ (SC SM : Zs) (x1 : Int32) (x2 : Int32), I SC SM → ∃ (r : Int64) (SC' SM' : Zs), (f6_ask x1 x2 SC = some (r, SC')) ∧ (f7_ask x1 x2 SM = some (r, SM')) ∧ I SC' SM') ∧
  (∀ (SC SM : Zs) (x1 : Int32), I SC SM → ∃ (r : Int32) (SC' SM' : Zs), (f6_trace SC x1 = some r ∧ SC' = SC) ∧ (f7_trace x1 SM = some (r, SM')) ∧ I SC' SM') ∧
  (∀ (SC SM : Zs) (x1 : Int32), I SC SM → ∃ (r : Int64) (SC' SM' : Zs), (f6_count SC x1 = some r ∧ SC' = SC) ∧ (f7_count x1 SM = some (r, SM')) ∧ I SC' SM') ∧
  (∀ (SC SM : Zs), I SC SM → ∃ (r : Int32) (SC' SM' : Zs), (f6_status SC = r ∧ SC' = SC) ∧ (f7_status SM = some (r, SM')) ∧ I SC' SM')

theorem lw_calli {p : Program} {l : Launch} {e : Env} {R : Room} {s : State} {m : MethodId} {args : Array Value} {below : List Frame} {meth : Method} {c : Code} {H : Heap} {locs : List Loc} {cells slots : Nat} {Q : State → Prop} {cc bytes : ByteArray} {nL pc maxL fr lo n index : Nat} {own Cn : String} {ret2 : Option FieldType} {D : va_G} {cA : Nat → ClassId} {A : Nat → Prop} {ls : Array Slot} {rest st0 : List Value} {sh : List Zc} {ad : Nat → Nat} {S : Zs} {y : MethodName} {As : List Value} (C : zCx p s m args meth c cc nL own ret2 D ad cA A) (P : zP D sh ad cA A S s H locs) {o ci N : Nat} {T : u_T} {fs : List Zf} {r : Int32} {S' : Zs} (hM : zMi l y bytes maxL fr lo D sh ad cA S (.ref (ad o) :: As) (r, S')) (hw : zWV own index Cn y bytes maxL (some .int) n) (hc : zcl[ci]? = some (Cn, T, N)) (hs : sh[o]? = some (.inl (ci, fs))) (hn : As.length = n) (hroom : fr + 1 ≤ R.frames ∧ 8 + (maxL + 11) + lo ≤ R.locals) (hl : ls.size = nL) (hst : st0 = As.reverse ++ .ref (ad o) :: rest) (hcat : (rest.map fun v => v.category).sum ≤ 8) (hdg : decode cc pc = .ok (.invokevirtual index, 3)) (hf : cells ≤ R.cells ∧ slots ≤ R.slots)
    (kk : ∀ (H1 : Heap) (locs1 : List Loc), (∀ q : Nat, q < H.size → ¬ zA sh ad cA S H.size q → H1[q]? = H[q]?) → zP D sh ad cA A S' s H1 locs1 → W p l e R s m args below meth c H1 locs1 cells slots Q (F0 m (pc + 3) ls (.int r :: rest))) : W p l e R s m args below meth c H locs cells slots Q (F0 m pc ls st0) := by
  have hfr := zA_free P.2.1 P.2.2 C.2.2.2.2.2.2.1
  refine va_calli (z_runV (Qc := fun A => zQi D sh ad cA A (r, S')) C P hM hw hc hs hn hroom hl hst hcat hdg hf) P.2.2 (fun q _ h => hfr q h) hfr (fun r1 S1 t H1 locs1 ht hvm hp hB hz1 hk1 hS => ?_)
  obtain ⟨rfl, rfl⟩ := hp
  obtain ⟨hP1, hK1, hD1⟩ := hB
  rw [ht] at hP1
  exact kk H1 locs1 hk1 ⟨hP1, hD1.weaken (fun _ q _ h => hfr q.1 h), hS⟩
theorem lw_calll {p : Program} {l : Launch} {e : Env} {R : Room} {s : State} {m : MethodId} {args : Array Value} {below : List Frame} {meth : Method} {c : Code} {H : Heap} {locs : List Loc} {cells slots : Nat} {Q : State → Prop} {cc bytes : ByteArray} {nL pc maxL fr lo n index : Nat} {own Cn : String} {ret2 : Option FieldType} {D : va_G} {cA : Nat → ClassId} {A : Nat → Prop} {ls : Array Slot} {rest st0 : List Value} {sh : List Zc} {ad : Nat → Nat} {S : Zs} {y : MethodName} {As : List Value} (C : zCx p s m args meth c cc nL own ret2 D ad cA A) (P : zP D sh ad cA A S s H locs) {o ci N : Nat} {T : u_T} {fs : List Zf} {r : Int64} {S' : Zs} (hM : zMl l y bytes maxL fr lo D sh ad cA S (.ref (ad o) :: As) (r, S')) (hw : zWV own index Cn y bytes maxL (some .long) n) (hc : zcl[ci]? = some (Cn, T, N)) (hs : sh[o]? = some (.inl (ci, fs))) (hn : As.length = n) (hroom : fr + 1 ≤ R.frames ∧ 8 + (maxL + 11) + lo ≤ R.locals) (hl : ls.size = nL) (hst : st0 = As.reverse ++ .ref (ad o) :: rest) (hcat : (rest.map fun v => v.category).sum ≤ 8) (hdg : decode cc pc = .ok (.invokevirtual index, 3)) (hf : cells ≤ R.cells ∧ slots ≤ R.slots)
    (kk : ∀ (H1 : Heap) (locs1 : List Loc), (∀ q : Nat, q < H.size → ¬ zA sh ad cA S H.size q → H1[q]? = H[q]?) → zP D sh ad cA A S' s H1 locs1 → W p l e R s m args below meth c H1 locs1 cells slots Q (F0 m (pc + 3) ls (.long r :: rest))) : W p l e R s m args below meth c H locs cells slots Q (F0 m pc ls st0) := by
  have hfr := zA_free P.2.1 P.2.2 C.2.2.2.2.2.2.1
  refine va_calll (z_runV (Qc := fun A => zQl D sh ad cA A (r, S')) C P hM hw hc hs hn hroom hl hst hcat hdg hf) P.2.2 (fun q _ h => hfr q h) hfr (fun r1 S1 t H1 locs1 ht hvm hp hB hz1 hk1 hS => ?_)
  obtain ⟨rfl, rfl⟩ := hp
  obtain ⟨hP1, hK1, hD1⟩ := hB
  rw [ht] at hP1
  exact kk H1 locs1 hk1 ⟨hP1, hD1.weaken (fun _ q _ h => hfr q.1 h), hS⟩
/-- the two worlds beside one another -/
def lwF (s : State) (hC hM : Nat) (adC adM : Nat → Nat) : Prop := zAd hC adC ∧ zAd hM adM ∧ hC + 66 ≤ hM ∧ s.heap.size ≤ hC
theorem lw_frC {s : State} {hC hM : Nat} {adC adM : Nat → Nat} (F : lwF s hC hM adC adM) {D : va_G} {cA : Nat → ClassId} {SC SM : Zs} {H H1 : Heap} (hP : va_P D zcl (zw zM adM cA SM) H) (hk : ∀ q : Nat, q < H.size → ¬ zA zC adC cA SC H.size q → H1[q]? = H[q]?) : va_P D zcl (zw zM adM cA SM) H1 := by
  refine hP.kept (fun k q hq => hk q.1 ((hP k q hq).lt) (fun h => ?_))
  obtain ⟨x, hx, rfl⟩ := zw_inv hq
  have hkl : k < 18 := (List.getElem?_eq_some_iff.mp hx).1
  rcases h with ⟨j, e, h⟩ | h
  · obtain ⟨y, hy, hj⟩ := zw_inv h
    have hjl : j < 66 := (List.getElem?_eq_some_iff.mp hy).1
    have e9 : adM k = adC j := congrArg Prod.fst hj
    rw [F.2.1 k (by omega), F.1 j (by omega)] at e9
    have := F.2.2.1
    omega
  · exact absurd ((hP k _ hq).lt) (by omega)
theorem lw_frM {s : State} {hC hM : Nat} {adC adM : Nat → Nat} (F : lwF s hC hM adC adM) {D : va_G} {cA : Nat → ClassId} {SC SM : Zs} {H H1 : Heap} (hP : va_P D zcl (zw zC adC cA SC) H) (hk : ∀ q : Nat, q < H.size → ¬ zA zM adM cA SM H.size q → H1[q]? = H[q]?) : va_P D zcl (zw zC adC cA SC) H1 := by
  refine hP.kept (fun k q hq => hk q.1 ((hP k q hq).lt) (fun h => ?_))
  obtain ⟨x, hx, rfl⟩ := zw_inv hq
  have hkl : k < 66 := (List.getElem?_eq_some_iff.mp hx).1
  rcases h with ⟨j, e, h⟩ | h
  · obtain ⟨y, hy, hj⟩ := zw_inv h
    have hjl : j < 18 := (List.getElem?_eq_some_iff.mp hy).1
    have e9 : adC k = adM j := congrArg Prod.fst hj
    rw [F.1 k (by omega), F.2.1 j (by omega)] at e9
    have := F.2.2.1
    omega
  · exact absurd ((hP k _ hq).lt) (by omega)
theorem zD_keep {sh : List Zc} {ad : Nat → Nat} {cA : Nat → ClassId} {S S' : Zs} {A : Nat → Prop} (h : va_D A (zw sh ad cA S)) : va_D A (zw sh ad cA S') := by
  refine ⟨fun i j x y hi hj e => ?_, fun k q hk => ?_⟩
  · obtain ⟨x1, h1, rfl⟩ := zw_inv hi
    obtain ⟨y1, h2, rfl⟩ := zw_inv hj
    exact h.1 i j _ _ (zw_at h1) (zw_at h2) e
  · obtain ⟨x1, h1, rfl⟩ := zw_inv hk
    exact (h.2 k _ (zw_at (S := S) h1) : A (ad k))
theorem wlm6_row : Cond.methodLink R_law 13 yX6_row ∈ ztb := zmem 310 (by decide +kernel) (by decide +kernel)
theorem wli6_row : Cond.instanceMethod yX6_row ∈ ztb := zmem 311 (by decide +kernel) (by decide +kernel)
theorem wls6_row : Cond.selects RX6 yX6_row yX6_row ∈ ztb := zmem 312 (by decide +kernel) (by decide +kernel)
theorem wlc6_row : Cond.code yX6_row cX6_row 4 (some .long) ∈ ztb := zmem 313 (by decide +kernel) (by decide +kernel)
theorem wl6_row : zWV R_law 13 RX6 yX6_row cX6_row 4 (some .long) 3 := ⟨wlm6_row, wli6_row, wls6_row, kN6, wlc6_row, by decide +kernel⟩
theorem wlm7_row : Cond.methodLink R_law 17 yX7_row ∈ ztb := zmem 901 (by decide +kernel) (by decide +kernel)
theorem wli7_row : Cond.instanceMethod yX7_row ∈ ztb := zmem 902 (by decide +kernel) (by decide +kernel)
theorem wls7_row : Cond.selects RX7 yX7_row yX7_row ∈ ztb := zmem 903 (by decide +kernel) (by decide +kernel)
theorem wlc7_row : Cond.code yX7_row cX7_row 5 (some .long) ∈ ztb := zmem 904 (by decide +kernel) (by decide +kernel)
theorem wl7_row : zWV R_law 17 RX7 yX7_row cX7_row 5 (some .long) 3 := ⟨wlm7_row, wli7_row, wls7_row, kN7, wlc7_row, by decide +kernel⟩
theorem wlm6_set : Cond.methodLink R_law 18 yX6_set ∈ ztb := zmem 334 (by decide +kernel) (by decide +kernel)
theorem wli6_set : Cond.instanceMethod yX6_set ∈ ztb := zmem 335 (by decide +kernel) (by decide +kernel)
theorem wls6_set : Cond.selects RX6 yX6_set yX6_set ∈ ztb := zmem 336 (by decide +kernel) (by decide +kernel)
theorem wlc6_set : Cond.code yX6_set cX6_set 4 (some .long) ∈ ztb := zmem 337 (by decide +kernel) (by decide +kernel)
theorem wl6_set : zWV R_law 18 RX6 yX6_set cX6_set 4 (some .long) 3 := ⟨wlm6_set, wli6_set, wls6_set, kN6, wlc6_set, by decide +kernel⟩
theorem wlm7_set : Cond.methodLink R_law 21 yX7_set ∈ ztb := zmem 919 (by decide +kernel) (by decide +kernel)
theorem wli7_set : Cond.instanceMethod yX7_set ∈ ztb := zmem 920 (by decide +kernel) (by decide +kernel)
theorem wls7_set : Cond.selects RX7 yX7_set yX7_set ∈ ztb := zmem 921 (by decide +kernel) (by decide +kernel)
theorem wlc7_set : Cond.code yX7_set cX7_set 4 (some .long) ∈ ztb := zmem 922 (by decide +kernel) (by decide +kernel)
theorem wl7_set : zWV R_law 21 RX7 yX7_set cX7_set 4 (some .long) 3 := ⟨wlm7_set, wli7_set, wls7_set, kN7, wlc7_set, by decide +kernel⟩
theorem wlm6_copy : Cond.methodLink R_law 22 yX6_copy ∈ ztb := zmem 350 (by decide +kernel) (by decide +kernel)
theorem wli6_copy : Cond.instanceMethod yX6_copy ∈ ztb := zmem 351 (by decide +kernel) (by decide +kernel)
theorem wls6_copy : Cond.selects RX6 yX6_copy yX6_copy ∈ ztb := zmem 352 (by decide +kernel) (by decide +kernel)
theorem wlc6_copy : Cond.code yX6_copy cX6_copy 6 (some .long) ∈ ztb := zmem 353 (by decide +kernel) (by decide +kernel)
theorem wl6_copy : zWV R_law 22 RX6 yX6_copy cX6_copy 6 (some .long) 5 := ⟨wlm6_copy, wli6_copy, wls6_copy, kN6, wlc6_copy, by decide +kernel⟩
theorem wlm7_copy : Cond.methodLink R_law 26 yX7_copy ∈ ztb := zmem 923 (by decide +kernel) (by decide +kernel)
theorem wli7_copy : Cond.instanceMethod yX7_copy ∈ ztb := zmem 924 (by decide +kernel) (by decide +kernel)
theorem wls7_copy : Cond.selects RX7 yX7_copy yX7_copy ∈ ztb := zmem 925 (by decide +kernel) (by decide +kernel)
theorem wlc7_copy : Cond.code yX7_copy cX7_copy 9 (some .long) ∈ ztb := zmem 926 (by decide +kernel) (by decide +kernel)
theorem wl7_copy : zWV R_law 26 RX7 yX7_copy cX7_copy 9 (some .long) 5 := ⟨wlm7_copy, wli7_copy, wls7_copy, kN7, wlc7_copy, by decide +kernel⟩
theorem wlm6_drop : Cond.methodLink R_law 27 yX6_drop ∈ ztb := zmem 365 (by decide +kernel) (by decide +kernel)
theorem wli6_drop : Cond.instanceMethod yX6_drop ∈ ztb := zmem 366 (by decide +kernel) (by decide +kernel)
theorem wls6_drop : Cond.selects RX6 yX6_drop yX6_drop ∈ ztb := zmem 367 (by decide +kernel) (by decide +kernel)
theorem wlc6_drop : Cond.code yX6_drop cX6_drop 2 (some .long) ∈ ztb := zmem 368 (by decide +kernel) (by decide +kernel)
theorem wl6_drop : zWV R_law 27 RX6 yX6_drop cX6_drop 2 (some .long) 1 := ⟨wlm6_drop, wli6_drop, wls6_drop, kN6, wlc6_drop, by decide +kernel⟩
theorem wlm7_drop : Cond.methodLink R_law 31 yX7_drop ∈ ztb := zmem 927 (by decide +kernel) (by decide +kernel)
theorem wli7_drop : Cond.instanceMethod yX7_drop ∈ ztb := zmem 928 (by decide +kernel) (by decide +kernel)
theorem wls7_drop : Cond.selects RX7 yX7_drop yX7_drop ∈ ztb := zmem 929 (by decide +kernel) (by decide +kernel)
theorem wlc7_drop : Cond.code yX7_drop cX7_drop 2 (some .long) ∈ ztb := zmem 930 (by decide +kernel) (by decide +kernel)
theorem wl7_drop : zWV R_law 31 RX7 yX7_drop cX7_drop 2 (some .long) 1 := ⟨wlm7_drop, wli7_drop, wls7_drop, kN7, wlc7_drop, by decide +kernel⟩
theorem wlm6_feed : Cond.methodLink R_law 34 yX6_feed ∈ ztb := zmem 373 (by decide +kernel) (by decide +kernel)
theorem wli6_feed : Cond.instanceMethod yX6_feed ∈ ztb := zmem 374 (by decide +kernel) (by decide +kernel)
theorem wls6_feed : Cond.selects RX6 yX6_feed yX6_feed ∈ ztb := zmem 375 (by decide +kernel) (by decide +kernel)
theorem wlc6_feed : Cond.code yX6_feed cX6_feed 4 (some .long) ∈ ztb := zmem 376 (by decide +kernel) (by decide +kernel)
theorem wl6_feed : zWV R_law 34 RX6 yX6_feed cX6_feed 4 (some .long) 2 := ⟨wlm6_feed, wli6_feed, wls6_feed, kN6, wlc6_feed, by decide +kernel⟩
theorem wlm7_feed : Cond.methodLink R_law 38 yX7_feed ∈ ztb := zmem 931 (by decide +kernel) (by decide +kernel)
theorem wli7_feed : Cond.instanceMethod yX7_feed ∈ ztb := zmem 932 (by decide +kernel) (by decide +kernel)
theorem wls7_feed : Cond.selects RX7 yX7_feed yX7_feed ∈ ztb := zmem 933 (by decide +kernel) (by decide +kernel)
theorem wlc7_feed : Cond.code yX7_feed cX7_feed 5 (some .long) ∈ ztb := zmem 934 (by decide +kernel) (by decide +kernel)
theorem wl7_feed : zWV R_law 38 RX7 yX7_feed cX7_feed 5 (some .long) 2 := ⟨wlm7_feed, wli7_feed, wls7_feed, kN7, wlc7_feed, by decide +kernel⟩
theorem wlm6_world : Cond.methodLink R_law 39 yX6_world ∈ ztb := zmem 386 (by decide +kernel) (by decide +kernel)
theorem wli6_world : Cond.instanceMethod yX6_world ∈ ztb := zmem 387 (by decide +kernel) (by decide +kernel)
theorem wls6_world : Cond.selects RX6 yX6_world yX6_world ∈ ztb := zmem 388 (by decide +kernel) (by decide +kernel)
theorem wlc6_world : Cond.code yX6_world cX6_world 2 (some .long) ∈ ztb := zmem 389 (by decide +kernel) (by decide +kernel)
theorem wl6_world : zWV R_law 39 RX6 yX6_world cX6_world 2 (some .long) 0 := ⟨wlm6_world, wli6_world, wls6_world, kN6, wlc6_world, by decide +kernel⟩
theorem wlm7_world : Cond.methodLink R_law 43 yX7_world ∈ ztb := zmem 938 (by decide +kernel) (by decide +kernel)
theorem wli7_world : Cond.instanceMethod yX7_world ∈ ztb := zmem 939 (by decide +kernel) (by decide +kernel)
theorem wls7_world : Cond.selects RX7 yX7_world yX7_world ∈ ztb := zmem 940 (by decide +kernel) (by decide +kernel)
theorem wlc7_world : Cond.code yX7_world cX7_world 2 (some .long) ∈ ztb := zmem 941 (by decide +kernel) (by decide +kernel)
theorem wl7_world : zWV R_law 43 RX7 yX7_world cX7_world 2 (some .long) 0 := ⟨wlm7_world, wli7_world, wls7_world, kN7, wlc7_world, by decide +kernel⟩
theorem wlm6_fault : Cond.methodLink R_law 44 yX6_fault ∈ ztb := zmem 573 (by decide +kernel) (by decide +kernel)
theorem wli6_fault : Cond.instanceMethod yX6_fault ∈ ztb := zmem 574 (by decide +kernel) (by decide +kernel)
theorem wls6_fault : Cond.selects RX6 yX6_fault yX6_fault ∈ ztb := zmem 575 (by decide +kernel) (by decide +kernel)
theorem wlc6_fault : Cond.code yX6_fault cX6_fault 1 (some .int) ∈ ztb := zmem 576 (by decide +kernel) (by decide +kernel)
theorem wl6_fault : zWV R_law 44 RX6 yX6_fault cX6_fault 1 (some .int) 0 := ⟨wlm6_fault, wli6_fault, wls6_fault, kN6, wlc6_fault, by decide +kernel⟩
theorem wlm7_fault : Cond.methodLink R_law 48 yX7_fault ∈ ztb := zmem 992 (by decide +kernel) (by decide +kernel)
theorem wli7_fault : Cond.instanceMethod yX7_fault ∈ ztb := zmem 993 (by decide +kernel) (by decide +kernel)
theorem wls7_fault : Cond.selects RX7 yX7_fault yX7_fault ∈ ztb := zmem 994 (by decide +kernel) (by decide +kernel)
theorem wlc7_fault : Cond.code yX7_fault cX7_fault 1 (some .int) ∈ ztb := zmem 995 (by decide +kernel) (by decide +kernel)
theorem wl7_fault : zWV R_law 48 RX7 yX7_fault cX7_fault 1 (some .int) 0 := ⟨wlm7_fault, wli7_fault, wls7_fault, kN7, wlc7_fault, by decide +kernel⟩
theorem wlm6_told : Cond.methodLink R_law 49 yX6_told ∈ ztb := zmem 577 (by decide +kernel) (by decide +kernel)
theorem wli6_told : Cond.instanceMethod yX6_told ∈ ztb := zmem 578 (by decide +kernel) (by decide +kernel)
theorem wls6_told : Cond.selects RX6 yX6_told yX6_told ∈ ztb := zmem 579 (by decide +kernel) (by decide +kernel)
theorem wlc6_told : Cond.code yX6_told cX6_told 4 (some .long) ∈ ztb := zmem 580 (by decide +kernel) (by decide +kernel)
theorem wl6_told : zWV R_law 49 RX6 yX6_told cX6_told 4 (some .long) 3 := ⟨wlm6_told, wli6_told, wls6_told, kN6, wlc6_told, by decide +kernel⟩
theorem wlm7_told : Cond.methodLink R_law 52 yX7_told ∈ ztb := zmem 996 (by decide +kernel) (by decide +kernel)
theorem wli7_told : Cond.instanceMethod yX7_told ∈ ztb := zmem 997 (by decide +kernel) (by decide +kernel)
theorem wls7_told : Cond.selects RX7 yX7_told yX7_told ∈ ztb := zmem 998 (by decide +kernel) (by decide +kernel)
theorem wlc7_told : Cond.code yX7_told cX7_told 4 (some .long) ∈ ztb := zmem 999 (by decide +kernel) (by decide +kernel)
theorem wl7_told : zWV R_law 52 RX7 yX7_told cX7_told 4 (some .long) 3 := ⟨wlm7_told, wli7_told, wls7_told, kN7, wlc7_told, by decide +kernel⟩
theorem wlm6_wage : Cond.methodLink R_law 53 yX6_wage ∈ ztb := zmem 589 (by decide +kernel) (by decide +kernel)
theorem wli6_wage : Cond.instanceMethod yX6_wage ∈ ztb := zmem 590 (by decide +kernel) (by decide +kernel)
theorem wls6_wage : Cond.selects RX6 yX6_wage yX6_wage ∈ ztb := zmem 591 (by decide +kernel) (by decide +kernel)
theorem wlc6_wage : Cond.code yX6_wage cX6_wage 3 (some .long) ∈ ztb := zmem 592 (by decide +kernel) (by decide +kernel)
theorem wl6_wage : zWV R_law 53 RX6 yX6_wage cX6_wage 3 (some .long) 2 := ⟨wlm6_wage, wli6_wage, wls6_wage, kN6, wlc6_wage, by decide +kernel⟩
theorem wlm7_wage : Cond.methodLink R_law 57 yX7_wage ∈ ztb := zmem 1008 (by decide +kernel) (by decide +kernel)
theorem wli7_wage : Cond.instanceMethod yX7_wage ∈ ztb := zmem 1009 (by decide +kernel) (by decide +kernel)
theorem wls7_wage : Cond.selects RX7 yX7_wage yX7_wage ∈ ztb := zmem 1010 (by decide +kernel) (by decide +kernel)
theorem wlc7_wage : Cond.code yX7_wage cX7_wage 3 (some .long) ∈ ztb := zmem 1011 (by decide +kernel) (by decide +kernel)
theorem wl7_wage : zWV R_law 57 RX7 yX7_wage cX7_wage 3 (some .long) 2 := ⟨wlm7_wage, wli7_wage, wls7_wage, kN7, wlc7_wage, by decide +kernel⟩
theorem wlm6_price : Cond.methodLink R_law 58 yX6_price ∈ ztb := zmem 597 (by decide +kernel) (by decide +kernel)
theorem wli6_price : Cond.instanceMethod yX6_price ∈ ztb := zmem 598 (by decide +kernel) (by decide +kernel)
theorem wls6_price : Cond.selects RX6 yX6_price yX6_price ∈ ztb := zmem 599 (by decide +kernel) (by decide +kernel)
theorem wlc6_price : Cond.code yX6_price cX6_price 3 (some .long) ∈ ztb := zmem 600 (by decide +kernel) (by decide +kernel)
theorem wl6_price : zWV R_law 58 RX6 yX6_price cX6_price 3 (some .long) 2 := ⟨wlm6_price, wli6_price, wls6_price, kN6, wlc6_price, by decide +kernel⟩
theorem wlm7_price : Cond.methodLink R_law 61 yX7_price ∈ ztb := zmem 1083 (by decide +kernel) (by decide +kernel)
theorem wli7_price : Cond.instanceMethod yX7_price ∈ ztb := zmem 1084 (by decide +kernel) (by decide +kernel)
theorem wls7_price : Cond.selects RX7 yX7_price yX7_price ∈ ztb := zmem 1085 (by decide +kernel) (by decide +kernel)
theorem wlc7_price : Cond.code yX7_price cX7_price 3 (some .long) ∈ ztb := zmem 1086 (by decide +kernel) (by decide +kernel)
theorem wl7_price : zWV R_law 61 RX7 yX7_price cX7_price 3 (some .long) 2 := ⟨wlm7_price, wli7_price, wls7_price, kN7, wlc7_price, by decide +kernel⟩
theorem wlm6_gain : Cond.methodLink R_law 62 yX6_gain ∈ ztb := zmem 607 (by decide +kernel) (by decide +kernel)
theorem wli6_gain : Cond.instanceMethod yX6_gain ∈ ztb := zmem 608 (by decide +kernel) (by decide +kernel)
theorem wls6_gain : Cond.selects RX6 yX6_gain yX6_gain ∈ ztb := zmem 609 (by decide +kernel) (by decide +kernel)
theorem wlc6_gain : Cond.code yX6_gain cX6_gain 4 (some .long) ∈ ztb := zmem 610 (by decide +kernel) (by decide +kernel)
theorem wl6_gain : zWV R_law 62 RX6 yX6_gain cX6_gain 4 (some .long) 3 := ⟨wlm6_gain, wli6_gain, wls6_gain, kN6, wlc6_gain, by decide +kernel⟩
theorem wlm7_gain : Cond.methodLink R_law 65 yX7_gain ∈ ztb := zmem 1087 (by decide +kernel) (by decide +kernel)
theorem wli7_gain : Cond.instanceMethod yX7_gain ∈ ztb := zmem 1088 (by decide +kernel) (by decide +kernel)
theorem wls7_gain : Cond.selects RX7 yX7_gain yX7_gain ∈ ztb := zmem 1089 (by decide +kernel) (by decide +kernel)
theorem wlc7_gain : Cond.code yX7_gain cX7_gain 4 (some .long) ∈ ztb := zmem 1090 (by decide +kernel) (by decide +kernel)
theorem wl7_gain : zWV R_law 65 RX7 yX7_gain cX7_gain 4 (some .long) 3 := ⟨wlm7_gain, wli7_gain, wls7_gain, kN7, wlc7_gain, by decide +kernel⟩
theorem wlm6_judge : Cond.methodLink R_law 66 yX6_judge ∈ ztb := zmem 612 (by decide +kernel) (by decide +kernel)
theorem wli6_judge : Cond.instanceMethod yX6_judge ∈ ztb := zmem 613 (by decide +kernel) (by decide +kernel)
theorem wls6_judge : Cond.selects RX6 yX6_judge yX6_judge ∈ ztb := zmem 614 (by decide +kernel) (by decide +kernel)
theorem wlc6_judge : Cond.code yX6_judge cX6_judge 6 (some .long) ∈ ztb := zmem 615 (by decide +kernel) (by decide +kernel)
theorem wl6_judge : zWV R_law 66 RX6 yX6_judge cX6_judge 6 (some .long) 2 := ⟨wlm6_judge, wli6_judge, wls6_judge, kN6, wlc6_judge, by decide +kernel⟩
theorem wlm7_judge : Cond.methodLink R_law 69 yX7_judge ∈ ztb := zmem 1091 (by decide +kernel) (by decide +kernel)
theorem wli7_judge : Cond.instanceMethod yX7_judge ∈ ztb := zmem 1092 (by decide +kernel) (by decide +kernel)
theorem wls7_judge : Cond.selects RX7 yX7_judge yX7_judge ∈ ztb := zmem 1093 (by decide +kernel) (by decide +kernel)
theorem wlc7_judge : Cond.code yX7_judge cX7_judge 6 (some .long) ∈ ztb := zmem 1094 (by decide +kernel) (by decide +kernel)
theorem wl7_judge : zWV R_law 69 RX7 yX7_judge cX7_judge 6 (some .long) 2 := ⟨wlm7_judge, wli7_judge, wls7_judge, kN7, wlc7_judge, by decide +kernel⟩
theorem wlm6_chain : Cond.methodLink R_law 70 yX6_chain ∈ ztb := zmem 630 (by decide +kernel) (by decide +kernel)
theorem wli6_chain : Cond.instanceMethod yX6_chain ∈ ztb := zmem 631 (by decide +kernel) (by decide +kernel)
theorem wls6_chain : Cond.selects RX6 yX6_chain yX6_chain ∈ ztb := zmem 632 (by decide +kernel) (by decide +kernel)
theorem wlc6_chain : Cond.code yX6_chain cX6_chain 4 (some .long) ∈ ztb := zmem 633 (by decide +kernel) (by decide +kernel)
theorem wl6_chain : zWV R_law 70 RX6 yX6_chain cX6_chain 4 (some .long) 3 := ⟨wlm6_chain, wli6_chain, wls6_chain, kN6, wlc6_chain, by decide +kernel⟩
theorem wlm7_chain : Cond.methodLink R_law 73 yX7_chain ∈ ztb := zmem 1101 (by decide +kernel) (by decide +kernel)
theorem wli7_chain : Cond.instanceMethod yX7_chain ∈ ztb := zmem 1102 (by decide +kernel) (by decide +kernel)
theorem wls7_chain : Cond.selects RX7 yX7_chain yX7_chain ∈ ztb := zmem 1103 (by decide +kernel) (by decide +kernel)
theorem wlc7_chain : Cond.code yX7_chain cX7_chain 9 (some .long) ∈ ztb := zmem 1104 (by decide +kernel) (by decide +kernel)
theorem wl7_chain : zWV R_law 73 RX7 yX7_chain cX7_chain 9 (some .long) 3 := ⟨wlm7_chain, wli7_chain, wls7_chain, kN7, wlc7_chain, by decide +kernel⟩
theorem wlm6_more : Cond.methodLink R_law 74 yX6_more ∈ ztb := zmem 642 (by decide +kernel) (by decide +kernel)
theorem wli6_more : Cond.instanceMethod yX6_more ∈ ztb := zmem 643 (by decide +kernel) (by decide +kernel)
theorem wls6_more : Cond.selects RX6 yX6_more yX6_more ∈ ztb := zmem 644 (by decide +kernel) (by decide +kernel)
theorem wlc6_more : Cond.code yX6_more cX6_more 6 (some .long) ∈ ztb := zmem 645 (by decide +kernel) (by decide +kernel)
theorem wl6_more : zWV R_law 74 RX6 yX6_more cX6_more 6 (some .long) 2 := ⟨wlm6_more, wli6_more, wls6_more, kN6, wlc6_more, by decide +kernel⟩
theorem wlm7_more : Cond.methodLink R_law 77 yX7_more ∈ ztb := zmem 1110 (by decide +kernel) (by decide +kernel)
theorem wli7_more : Cond.instanceMethod yX7_more ∈ ztb := zmem 1111 (by decide +kernel) (by decide +kernel)
theorem wls7_more : Cond.selects RX7 yX7_more yX7_more ∈ ztb := zmem 1112 (by decide +kernel) (by decide +kernel)
theorem wlc7_more : Cond.code yX7_more cX7_more 8 (some .long) ∈ ztb := zmem 1113 (by decide +kernel) (by decide +kernel)
theorem wl7_more : zWV R_law 77 RX7 yX7_more cX7_more 8 (some .long) 2 := ⟨wlm7_more, wli7_more, wls7_more, kN7, wlc7_more, by decide +kernel⟩
theorem wlm6_stays : Cond.methodLink R_law 78 yX6_stays ∈ ztb := zmem 664 (by decide +kernel) (by decide +kernel)
theorem wli6_stays : Cond.instanceMethod yX6_stays ∈ ztb := zmem 665 (by decide +kernel) (by decide +kernel)
theorem wls6_stays : Cond.selects RX6 yX6_stays yX6_stays ∈ ztb := zmem 666 (by decide +kernel) (by decide +kernel)
theorem wlc6_stays : Cond.code yX6_stays cX6_stays 8 (some .long) ∈ ztb := zmem 667 (by decide +kernel) (by decide +kernel)
theorem wl6_stays : zWV R_law 78 RX6 yX6_stays cX6_stays 8 (some .long) 3 := ⟨wlm6_stays, wli6_stays, wls6_stays, kN6, wlc6_stays, by decide +kernel⟩
theorem wlm7_stays : Cond.methodLink R_law 81 yX7_stays ∈ ztb := zmem 1124 (by decide +kernel) (by decide +kernel)
theorem wli7_stays : Cond.instanceMethod yX7_stays ∈ ztb := zmem 1125 (by decide +kernel) (by decide +kernel)
theorem wls7_stays : Cond.selects RX7 yX7_stays yX7_stays ∈ ztb := zmem 1126 (by decide +kernel) (by decide +kernel)
theorem wlc7_stays : Cond.code yX7_stays cX7_stays 4 (some .long) ∈ ztb := zmem 1127 (by decide +kernel) (by decide +kernel)
theorem wl7_stays : zWV R_law 81 RX7 yX7_stays cX7_stays 4 (some .long) 3 := ⟨wlm7_stays, wli7_stays, wls7_stays, kN7, wlc7_stays, by decide +kernel⟩
theorem wlm6_learn : Cond.methodLink R_law 82 yX6_learn ∈ ztb := zmem 669 (by decide +kernel) (by decide +kernel)
theorem wli6_learn : Cond.instanceMethod yX6_learn ∈ ztb := zmem 670 (by decide +kernel) (by decide +kernel)
theorem wls6_learn : Cond.selects RX6 yX6_learn yX6_learn ∈ ztb := zmem 671 (by decide +kernel) (by decide +kernel)
theorem wlc6_learn : Cond.code yX6_learn cX6_learn 5 (some .long) ∈ ztb := zmem 672 (by decide +kernel) (by decide +kernel)
theorem wl6_learn : zWV R_law 82 RX6 yX6_learn cX6_learn 5 (some .long) 3 := ⟨wlm6_learn, wli6_learn, wls6_learn, kN6, wlc6_learn, by decide +kernel⟩
theorem wlm7_learn : Cond.methodLink R_law 85 yX7_learn ∈ ztb := zmem 1130 (by decide +kernel) (by decide +kernel)
theorem wli7_learn : Cond.instanceMethod yX7_learn ∈ ztb := zmem 1131 (by decide +kernel) (by decide +kernel)
theorem wls7_learn : Cond.selects RX7 yX7_learn yX7_learn ∈ ztb := zmem 1132 (by decide +kernel) (by decide +kernel)
theorem wlc7_learn : Cond.code yX7_learn cX7_learn 5 (some .long) ∈ ztb := zmem 1133 (by decide +kernel) (by decide +kernel)
theorem wl7_learn : zWV R_law 85 RX7 yX7_learn cX7_learn 5 (some .long) 3 := ⟨wlm7_learn, wli7_learn, wls7_learn, kN7, wlc7_learn, by decide +kernel⟩
theorem wlm6_on : Cond.methodLink R_law 86 yX6_on ∈ ztb := zmem 677 (by decide +kernel) (by decide +kernel)
theorem wli6_on : Cond.instanceMethod yX6_on ∈ ztb := zmem 678 (by decide +kernel) (by decide +kernel)
theorem wls6_on : Cond.selects RX6 yX6_on yX6_on ∈ ztb := zmem 679 (by decide +kernel) (by decide +kernel)
theorem wlc6_on : Cond.code yX6_on cX6_on 9 (some .long) ∈ ztb := zmem 680 (by decide +kernel) (by decide +kernel)
theorem wl6_on : zWV R_law 86 RX6 yX6_on cX6_on 9 (some .long) 1 := ⟨wlm6_on, wli6_on, wls6_on, kN6, wlc6_on, by decide +kernel⟩
theorem wlm7_on : Cond.methodLink R_law 89 yX7_on ∈ ztb := zmem 1138 (by decide +kernel) (by decide +kernel)
theorem wli7_on : Cond.instanceMethod yX7_on ∈ ztb := zmem 1139 (by decide +kernel) (by decide +kernel)
theorem wls7_on : Cond.selects RX7 yX7_on yX7_on ∈ ztb := zmem 1140 (by decide +kernel) (by decide +kernel)
theorem wlc7_on : Cond.code yX7_on cX7_on 11 (some .long) ∈ ztb := zmem 1141 (by decide +kernel) (by decide +kernel)
theorem wl7_on : zWV R_law 89 RX7 yX7_on cX7_on 11 (some .long) 1 := ⟨wlm7_on, wli7_on, wls7_on, kN7, wlc7_on, by decide +kernel⟩
theorem wlm6_edge : Cond.methodLink R_law 90 yX6_edge ∈ ztb := zmem 683 (by decide +kernel) (by decide +kernel)
theorem wli6_edge : Cond.instanceMethod yX6_edge ∈ ztb := zmem 684 (by decide +kernel) (by decide +kernel)
theorem wls6_edge : Cond.selects RX6 yX6_edge yX6_edge ∈ ztb := zmem 685 (by decide +kernel) (by decide +kernel)
theorem wlc6_edge : Cond.code yX6_edge cX6_edge 4 (some .long) ∈ ztb := zmem 686 (by decide +kernel) (by decide +kernel)
theorem wl6_edge : zWV R_law 90 RX6 yX6_edge cX6_edge 4 (some .long) 2 := ⟨wlm6_edge, wli6_edge, wls6_edge, kN6, wlc6_edge, by decide +kernel⟩
theorem wlm7_edge : Cond.methodLink R_law 93 yX7_edge ∈ ztb := zmem 1142 (by decide +kernel) (by decide +kernel)
theorem wli7_edge : Cond.instanceMethod yX7_edge ∈ ztb := zmem 1143 (by decide +kernel) (by decide +kernel)
theorem wls7_edge : Cond.selects RX7 yX7_edge yX7_edge ∈ ztb := zmem 1144 (by decide +kernel) (by decide +kernel)
theorem wlc7_edge : Cond.code yX7_edge cX7_edge 6 (some .long) ∈ ztb := zmem 1145 (by decide +kernel) (by decide +kernel)
theorem wl7_edge : zWV R_law 93 RX7 yX7_edge cX7_edge 6 (some .long) 2 := ⟨wlm7_edge, wli7_edge, wls7_edge, kN7, wlc7_edge, by decide +kernel⟩
theorem wlm6_move : Cond.methodLink R_law 94 yX6_move ∈ ztb := zmem 691 (by decide +kernel) (by decide +kernel)
theorem wli6_move : Cond.instanceMethod yX6_move ∈ ztb := zmem 692 (by decide +kernel) (by decide +kernel)
theorem wls6_move : Cond.selects RX6 yX6_move yX6_move ∈ ztb := zmem 693 (by decide +kernel) (by decide +kernel)
theorem wlc6_move : Cond.code yX6_move cX6_move 3 (some .long) ∈ ztb := zmem 694 (by decide +kernel) (by decide +kernel)
theorem wl6_move : zWV R_law 94 RX6 yX6_move cX6_move 3 (some .long) 1 := ⟨wlm6_move, wli6_move, wls6_move, kN6, wlc6_move, by decide +kernel⟩
theorem wlm7_move : Cond.methodLink R_law 97 yX7_move ∈ ztb := zmem 1151 (by decide +kernel) (by decide +kernel)
theorem wli7_move : Cond.instanceMethod yX7_move ∈ ztb := zmem 1152 (by decide +kernel) (by decide +kernel)
theorem wls7_move : Cond.selects RX7 yX7_move yX7_move ∈ ztb := zmem 1153 (by decide +kernel) (by decide +kernel)
theorem wlc7_move : Cond.code yX7_move cX7_move 3 (some .long) ∈ ztb := zmem 1154 (by decide +kernel) (by decide +kernel)
theorem wl7_move : zWV R_law 97 RX7 yX7_move cX7_move 3 (some .long) 1 := ⟨wlm7_move, wli7_move, wls7_move, kN7, wlc7_move, by decide +kernel⟩
theorem wlm6_kind : Cond.methodLink R_law 98 yX6_kind ∈ ztb := zmem 699 (by decide +kernel) (by decide +kernel)
theorem wli6_kind : Cond.instanceMethod yX6_kind ∈ ztb := zmem 700 (by decide +kernel) (by decide +kernel)
theorem wls6_kind : Cond.selects RX6 yX6_kind yX6_kind ∈ ztb := zmem 701 (by decide +kernel) (by decide +kernel)
theorem wlc6_kind : Cond.code yX6_kind cX6_kind 2 (some .long) ∈ ztb := zmem 702 (by decide +kernel) (by decide +kernel)
theorem wl6_kind : zWV R_law 98 RX6 yX6_kind cX6_kind 2 (some .long) 1 := ⟨wlm6_kind, wli6_kind, wls6_kind, kN6, wlc6_kind, by decide +kernel⟩
theorem wlm7_kind : Cond.methodLink R_law 101 yX7_kind ∈ ztb := zmem 1160 (by decide +kernel) (by decide +kernel)
theorem wli7_kind : Cond.instanceMethod yX7_kind ∈ ztb := zmem 1161 (by decide +kernel) (by decide +kernel)
theorem wls7_kind : Cond.selects RX7 yX7_kind yX7_kind ∈ ztb := zmem 1162 (by decide +kernel) (by decide +kernel)
theorem wlc7_kind : Cond.code yX7_kind cX7_kind 2 (some .long) ∈ ztb := zmem 1163 (by decide +kernel) (by decide +kernel)
theorem wl7_kind : zWV R_law 101 RX7 yX7_kind cX7_kind 2 (some .long) 1 := ⟨wlm7_kind, wli7_kind, wls7_kind, kN7, wlc7_kind, by decide +kernel⟩
theorem wlm6_as : Cond.methodLink R_law 102 yX6_as ∈ ztb := zmem 718 (by decide +kernel) (by decide +kernel)
theorem wli6_as : Cond.instanceMethod yX6_as ∈ ztb := zmem 719 (by decide +kernel) (by decide +kernel)
theorem wls6_as : Cond.selects RX6 yX6_as yX6_as ∈ ztb := zmem 720 (by decide +kernel) (by decide +kernel)
theorem wlc6_as : Cond.code yX6_as cX6_as 3 (some .long) ∈ ztb := zmem 721 (by decide +kernel) (by decide +kernel)
theorem wl6_as : zWV R_law 102 RX6 yX6_as cX6_as 3 (some .long) 2 := ⟨wlm6_as, wli6_as, wls6_as, kN6, wlc6_as, by decide +kernel⟩
theorem wlm7_as : Cond.methodLink R_law 105 yX7_as ∈ ztb := zmem 1172 (by decide +kernel) (by decide +kernel)
theorem wli7_as : Cond.instanceMethod yX7_as ∈ ztb := zmem 1173 (by decide +kernel) (by decide +kernel)
theorem wls7_as : Cond.selects RX7 yX7_as yX7_as ∈ ztb := zmem 1174 (by decide +kernel) (by decide +kernel)
theorem wlc7_as : Cond.code yX7_as cX7_as 3 (some .long) ∈ ztb := zmem 1175 (by decide +kernel) (by decide +kernel)
theorem wl7_as : zWV R_law 105 RX7 yX7_as cX7_as 3 (some .long) 2 := ⟨wlm7_as, wli7_as, wls7_as, kN7, wlc7_as, by decide +kernel⟩
theorem wlm6_ask : Cond.methodLink R_law 106 yX6_ask ∈ ztb := zmem 722 (by decide +kernel) (by decide +kernel)
theorem wli6_ask : Cond.instanceMethod yX6_ask ∈ ztb := zmem 723 (by decide +kernel) (by decide +kernel)
theorem wls6_ask : Cond.selects RX6 yX6_ask yX6_ask ∈ ztb := zmem 724 (by decide +kernel) (by decide +kernel)
theorem wlc6_ask : Cond.code yX6_ask cX6_ask 3 (some .long) ∈ ztb := zmem 725 (by decide +kernel) (by decide +kernel)
theorem wl6_ask : zWV R_law 106 RX6 yX6_ask cX6_ask 3 (some .long) 2 := ⟨wlm6_ask, wli6_ask, wls6_ask, kN6, wlc6_ask, by decide +kernel⟩
theorem wlm7_ask : Cond.methodLink R_law 109 yX7_ask ∈ ztb := zmem 1179 (by decide +kernel) (by decide +kernel)
theorem wli7_ask : Cond.instanceMethod yX7_ask ∈ ztb := zmem 1180 (by decide +kernel) (by decide +kernel)
theorem wls7_ask : Cond.selects RX7 yX7_ask yX7_ask ∈ ztb := zmem 1181 (by decide +kernel) (by decide +kernel)
theorem wlc7_ask : Cond.code yX7_ask cX7_ask 4 (some .long) ∈ ztb := zmem 1182 (by decide +kernel) (by decide +kernel)
theorem wl7_ask : zWV R_law 109 RX7 yX7_ask cX7_ask 4 (some .long) 2 := ⟨wlm7_ask, wli7_ask, wls7_ask, kN7, wlc7_ask, by decide +kernel⟩
theorem wlm6_trace : Cond.methodLink R_law 110 yX6_trace ∈ ztb := zmem 754 (by decide +kernel) (by decide +kernel)
theorem wli6_trace : Cond.instanceMethod yX6_trace ∈ ztb := zmem 755 (by decide +kernel) (by decide +kernel)
theorem wls6_trace : Cond.selects RX6 yX6_trace yX6_trace ∈ ztb := zmem 756 (by decide +kernel) (by decide +kernel)
theorem wlc6_trace : Cond.code yX6_trace cX6_trace 2 (some .int) ∈ ztb := zmem 757 (by decide +kernel) (by decide +kernel)
theorem wl6_trace : zWV R_law 110 RX6 yX6_trace cX6_trace 2 (some .int) 1 := ⟨wlm6_trace, wli6_trace, wls6_trace, kN6, wlc6_trace, by decide +kernel⟩
theorem wlm7_trace : Cond.methodLink R_law 114 yX7_trace ∈ ztb := zmem 1207 (by decide +kernel) (by decide +kernel)
theorem wli7_trace : Cond.instanceMethod yX7_trace ∈ ztb := zmem 1208 (by decide +kernel) (by decide +kernel)
theorem wls7_trace : Cond.selects RX7 yX7_trace yX7_trace ∈ ztb := zmem 1209 (by decide +kernel) (by decide +kernel)
theorem wlc7_trace : Cond.code yX7_trace cX7_trace 2 (some .int) ∈ ztb := zmem 1210 (by decide +kernel) (by decide +kernel)
theorem wl7_trace : zWV R_law 114 RX7 yX7_trace cX7_trace 2 (some .int) 1 := ⟨wlm7_trace, wli7_trace, wls7_trace, kN7, wlc7_trace, by decide +kernel⟩
theorem wlm6_count : Cond.methodLink R_law 115 yX6_count ∈ ztb := zmem 763 (by decide +kernel) (by decide +kernel)
theorem wli6_count : Cond.instanceMethod yX6_count ∈ ztb := zmem 764 (by decide +kernel) (by decide +kernel)
theorem wls6_count : Cond.selects RX6 yX6_count yX6_count ∈ ztb := zmem 765 (by decide +kernel) (by decide +kernel)
theorem wlc6_count : Cond.code yX6_count cX6_count 2 (some .long) ∈ ztb := zmem 766 (by decide +kernel) (by decide +kernel)
theorem wl6_count : zWV R_law 115 RX6 yX6_count cX6_count 2 (some .long) 1 := ⟨wlm6_count, wli6_count, wls6_count, kN6, wlc6_count, by decide +kernel⟩
theorem wlm7_count : Cond.methodLink R_law 118 yX7_count ∈ ztb := zmem 1211 (by decide +kernel) (by decide +kernel)
theorem wli7_count : Cond.instanceMethod yX7_count ∈ ztb := zmem 1212 (by decide +kernel) (by decide +kernel)
theorem wls7_count : Cond.selects RX7 yX7_count yX7_count ∈ ztb := zmem 1213 (by decide +kernel) (by decide +kernel)
theorem wlc7_count : Cond.code yX7_count cX7_count 4 (some .long) ∈ ztb := zmem 1214 (by decide +kernel) (by decide +kernel)
theorem wl7_count : zWV R_law 118 RX7 yX7_count cX7_count 4 (some .long) 1 := ⟨wlm7_count, wli7_count, wls7_count, kN7, wlc7_count, by decide +kernel⟩
theorem wlm6_status : Cond.methodLink R_law 119 yX6_status ∈ ztb := zmem 779 (by decide +kernel) (by decide +kernel)
theorem wli6_status : Cond.instanceMethod yX6_status ∈ ztb := zmem 780 (by decide +kernel) (by decide +kernel)
theorem wls6_status : Cond.selects RX6 yX6_status yX6_status ∈ ztb := zmem 781 (by decide +kernel) (by decide +kernel)
theorem wlc6_status : Cond.code yX6_status cX6_status 1 (some .int) ∈ ztb := zmem 782 (by decide +kernel) (by decide +kernel)
theorem wl6_status : zWV R_law 119 RX6 yX6_status cX6_status 1 (some .int) 0 := ⟨wlm6_status, wli6_status, wls6_status, kN6, wlc6_status, by decide +kernel⟩
theorem wlm7_status : Cond.methodLink R_law 122 yX7_status ∈ ztb := zmem 1215 (by decide +kernel) (by decide +kernel)
theorem wli7_status : Cond.instanceMethod yX7_status ∈ ztb := zmem 1216 (by decide +kernel) (by decide +kernel)
theorem wls7_status : Cond.selects RX7 yX7_status yX7_status ∈ ztb := zmem 1217 (by decide +kernel) (by decide +kernel)
theorem wlc7_status : Cond.code yX7_status cX7_status 1 (some .int) ∈ ztb := zmem 1218 (by decide +kernel) (by decide +kernel)
theorem wl7_status : zWV R_law 122 RX7 yX7_status cX7_status 1 (some .int) 0 := ⟨wlm7_status, wli7_status, wls7_status, kN7, wlc7_status, by decide +kernel⟩
