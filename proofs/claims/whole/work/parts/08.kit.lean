/-! THE COMPRESSED WORLD: a list of shapes (fixed) and two tables of contents: ints and longs by cell and slot -/
abbrev Zs : Type := (Nat → Nat → Int32) × (Nat → Nat → Int64)
def zI (S : Zs) (k j : Nat) (v : Int32) : Zs := (fun a b => if a = k ∧ b = j then v else S.1 a b, S.2)
def zL (S : Zs) (k j : Nat) (v : Int64) : Zs := (S.1, fun a b => if a = k ∧ b = j then v else S.2 a b)
def zcI (S : Zs) (q0 sp q1 dp n : Nat) : Zs := (fun a b => if a = q1 then va_cpy (S.1 q0) (S.1 q1) sp dp n b else S.1 a b, S.2)
def zcL (S : Zs) (q0 sp q1 dp n : Nat) : Zs := (S.1, fun a b => if a = q1 then va_cpy (S.2 q0) (S.2 q1) sp dp n b else S.2 a b)
/-- a value with a name -/
def lt_ {α β : Type} (x : α) (F : α → β) : β := F x
def inb (i : Int32) (n : Nat) : Bool := decide (¬ (i < 0 ∨ n ≤ i.toNatClampNeg))
def bd1 {α γ : Type} (x : Option α) (k : α → Option γ) : Option γ := match x with
  | none => none
  | some a => k a
def bd2 {α β γ : Type} (x : Option (α × β)) (k : α → β → Option γ) : Option γ := match x with
  | none => none
  | some a => k a.1 a.2
/-- a field: .inl 0 an int, .inl 1 a long, .inl 2 null, .inr q a fixed reference to cell q -/
abbrev Zf : Type := Nat ⊕ Nat
/-- a cell: .inl (number of its kind, fields), .inr (0 ints, 1 longs, 2 bytes, 3 references; length; the references) -/
abbrev Zc : Type := (Nat × List Zf) ⊕ (Nat × Nat × List Nat)
def zfv (ad : Nat → Nat) (S : Zs) (k j : Nat) (f : Zf) : Value := match f with
  | .inl 0 => .int (S.1 k j)
  | .inl 1 => .long (S.2 k j)
  | .inl _ => .null
  | .inr q => .ref (ad q)
def zcel (ad : Nat → Nat) (cA : Nat → ClassId) (S : Zs) (k : Nat) (x : Zc) : va_E := match x with
  | .inl o => .inr (o.1, o.2.mapIdx (fun j f => zfv ad S k j f))
  | .inr (0, n, _) => .inl (cA 0, n, .inl (S.1 k))
  | .inr (1, n, _) => .inl (cA 1, n, .inr (.inl (S.2 k)))
  | .inr (2, n, _) => .inl (cA 2, n, .inl (S.1 k))
  | .inr (_, n, rs) => .inl (cA 3, n, .inr (.inr (.inr (.inr (fun j => (rs[j]?).map ad)))))
def zw (sh : List Zc) (ad : Nat → Nat) (cA : Nat → ClassId) (S : Zs) : va_W := sh.mapIdx (fun k x => (ad k, zcel ad cA S k x))
theorem zw_at {sh : List Zc} {ad : Nat → Nat} {cA : Nat → ClassId} {S : Zs} {k : Nat} {x : Zc} (h : sh[k]? = some x) : (zw sh ad cA S)[k]? = some (ad k, zcel ad cA S k x) := by
  unfold zw; rw [List.getElem?_mapIdx, h]; rfl
theorem zw_set {sh : List Zc} {ad : Nat → Nat} {cA : Nat → ClassId} {S S' : Zs} {k : Nat} {x : Zc} (h : sh[k]? = some x) (hk : ∀ (i : Nat) (y : Zc), i ≠ k → zcel ad cA S' i y = zcel ad cA S i y) : (zw sh ad cA S).set k (ad k, zcel ad cA S' k x) = zw sh ad cA S' := by
  apply List.ext_getElem?
  intro i
  by_cases hi : i = k
  · subst hi
    rw [List.getElem?_set_self (List.getElem?_eq_some_iff.mp (zw_at (ad := ad) (cA := cA) (S := S) h)).1, zw_at h]
  · rw [List.getElem?_set_ne (Ne.symm hi)]
    unfold zw
    rw [List.getElem?_mapIdx, List.getElem?_mapIdx]
    cases sh[i]? with
    | none => rfl
    | some y => simp only [Option.map_some, hk i y hi]
theorem zcel_eq {ad : Nat → Nat} {cA : Nat → ClassId} {S S' : Zs} {i : Nat} (e1 : S'.1 i = S.1 i) (e2 : S'.2 i = S.2 i) (y : Zc) : zcel ad cA S' i y = zcel ad cA S i y := by
  have ef : (fun j f => zfv ad S' i j f) = (fun j f => zfv ad S i j f) := by
    funext j f
    unfold zfv
    rw [e1, e2]
  unfold zcel
  rw [e1, e2, ef]
theorem zI_1 (S : Zs) (k j : Nat) (v : Int32) : (zI S k j v).1 k = upd (S.1 k) j v := by
  funext b
  simp [zI, upd]
theorem zI_1n (S : Zs) {k i : Nat} (j : Nat) (v : Int32) (h : i ≠ k) : (zI S k j v).1 i = S.1 i := by
  funext b
  simp [zI, h]
theorem zL_2 (S : Zs) (k j : Nat) (v : Int64) : (zL S k j v).2 k = vp_updL (S.2 k) j v := by
  funext b
  simp [zL, vp_updL]
theorem zL_2n (S : Zs) {k i : Nat} (j : Nat) (v : Int64) (h : i ≠ k) : (zL S k j v).2 i = S.2 i := by
  funext b
  simp [zL, h]
theorem zcI_1 (S : Zs) (q0 sp q1 dp n : Nat) : (zcI S q0 sp q1 dp n).1 q1 = va_cpy (S.1 q0) (S.1 q1) sp dp n := by
  funext b
  simp [zcI]
theorem zcI_1n (S : Zs) {q1 i : Nat} (q0 sp dp n : Nat) (h : i ≠ q1) : (zcI S q0 sp q1 dp n).1 i = S.1 i := by
  funext b
  simp [zcI, h]
theorem zcL_2 (S : Zs) (q0 sp q1 dp n : Nat) : (zcL S q0 sp q1 dp n).2 q1 = va_cpy (S.2 q0) (S.2 q1) sp dp n := by
  funext b
  simp [zcL]
theorem zcL_2n (S : Zs) {q1 i : Nat} (q0 sp dp n : Nat) (h : i ≠ q1) : (zcL S q0 sp q1 dp n).2 i = S.2 i := by
  funext b
  simp [zcL, h]
theorem zfs_I {ad : Nat → Nat} {S : Zs} {k j : Nat} {fs : List Zf} {v : Int32} (hf : fs[j]? = some (.inl 0)) : (fs.mapIdx (fun j f => zfv ad S k j f)).set j (.int v) = fs.mapIdx (fun i f => zfv ad (zI S k j v) k i f) := by
  apply List.ext_getElem?
  intro i
  by_cases hi : i = j
  · subst hi
    rw [List.getElem?_set_self (by simp; exact (List.getElem?_eq_some_iff.mp hf).1), List.getElem?_mapIdx, hf]
    simp [zfv, zI]
  · rw [List.getElem?_set_ne (Ne.symm hi), List.getElem?_mapIdx, List.getElem?_mapIdx]
    cases fs[i]? with
    | none => rfl
    | some f =>
      have e : zfv ad (zI S k j v) k i f = zfv ad S k i f := by
        unfold zfv
        have : (zI S k j v).1 k i = S.1 k i := by simp [zI, hi]
        rw [this]
        rfl
      simp [e]
theorem zfs_L {ad : Nat → Nat} {S : Zs} {k j : Nat} {fs : List Zf} {v : Int64} (hf : fs[j]? = some (.inl 1)) : (fs.mapIdx (fun j f => zfv ad S k j f)).set j (.long v) = fs.mapIdx (fun i f => zfv ad (zL S k j v) k i f) := by
  apply List.ext_getElem?
  intro i
  by_cases hi : i = j
  · subst hi
    rw [List.getElem?_set_self (by simp; exact (List.getElem?_eq_some_iff.mp hf).1), List.getElem?_mapIdx, hf]
    simp [zfv, zL]
  · rw [List.getElem?_set_ne (Ne.symm hi), List.getElem?_mapIdx, List.getElem?_mapIdx]
    cases fs[i]? with
    | none => rfl
    | some f =>
      have e : zfv ad (zL S k j v) k i f = zfv ad S k i f := by
        unfold zfv
        have : (zL S k j v).2 k i = S.2 k i := by simp [zL, hi]
        rw [this]
        rfl
      simp [e]
/-! the kinds of objects, the kinds of arrays -/
abbrev zcl : List vw_C := [(RX0, TX0, 9), (RX1, TX1, 3), (RX2, TX2, 3), (RX3, TX3, 8), (RX4, TX4, 2), (RX5, TX5, 7), (RX6, TX6, 12), (RX7, TX7, 37)]
abbrev ztys (cA : Nat → ClassId) : List (ClassId × FieldType) := [(cA 0, .int), (cA 1, .long), (cA 2, .byte), (cA 3, .array .int)]
/-- the tables' words that serve a callee -/
def ztb : List Cond := lw_tbl.filter goodWord
theorem zgood : ∀ w ∈ ztb, (w.onTables && w.keeps) = true ∨ ∃ ty, w = .arrayClass ty := fun w hw => good_of_word (List.mem_filter.mp hw).2
theorem zGood {ws : List Cond} (h : ∀ w ∈ ws, w ∈ ztb) : GoodIn ztb ws := fun w hw => ⟨h w hw, zgood w (h w hw)⟩
theorem zmem {w : Cond} (i : Nat) (h : lw_tbl[i]? = some w) (g : goodWord w = true) : w ∈ ztb := List.mem_filter.mpr ⟨List.mem_of_getElem? h, g⟩
theorem zk_overA {args : Array Value} {s : State} {t : FieldType} (h : (Cond.arrayOver (.array t)).before args s = true) :
    ∃ comp c k, s.vm.findClass (FieldType.array t).toString = some comp ∧ (s.vm.classes.findIdx? fun x => match x.kind with | .array component _ => component == comp | _ => false) = some c ∧ s.vm.classes[c]? = some k ∧ k.kind = .array comp (.array t) ∧
      s.vm.findClass ("[" ++ (FieldType.array t).toString) = some c := by
  unfold Cond.before at h
  simp only [Cond.holds, Cond.value, beq_iff_eq] at h
  cases hc : s.vm.findClass (FieldType.array t).toString with
  | none => simp [hc] at h
  | some comp =>
    simp only [hc, Option.bind_some, Option.bind_eq_some_iff, Option.map_eq_some_iff] at h
    obtain ⟨c, hi, k, hk, hb⟩ := h
    obtain ⟨hlt, hp, -⟩ := Array.findIdx?_eq_some_iff_getElem.mp hi
    have hkk : s.vm.classes[c] = k := (Array.getElem?_eq_some_iff.mp hk).2
    rw [hkk] at hp
    cases hkind : k.kind with
    | array component ty =>
      rw [hkind] at hb hp
      simp at hb hp
      exact ⟨comp, c, k, rfl, hi, hk, by rw [hkind, hp, hb.1], hb.2⟩
    | _ => rw [hkind] at hb; simp at hb
theorem va_AOA.moved {t : FieldType} {u U : State} (hvm : u.vm.Alike U.vm) (h : va_AOA t u) : va_AOA t U := by
  obtain ⟨comp, c, k, h1, h2, h3, h4, h5⟩ := zk_overA h
  obtain ⟨k', hk', he⟩ := hvm.2.2 _ _ h3
  have hi : (U.vm.classes.findIdx? fun (x : Class) => match x.kind with | .array component _ => component == comp | _ => false) = some c := by
    have e1 := va_idx_bare U.vm comp
    have e2 := va_idx_bare u.vm comp
    first | rw [hvm.bare_eq] at e2 | rw [← hvm.bare_eq] at e2 | skip
    first | exact e1.symm.trans (e2.trans h2) | (rw [hvm.bare_eq] at e1; exact e1.symm.trans (e2.trans h2)) | (rw [← hvm.bare_eq] at e1; exact e1.symm.trans (e2.trans h2))
  have hkind : k'.kind = .array comp (.array t) := by rw [he]; exact h4
  have f1 : U.vm.findClass (FieldType.array t).toString = some comp := by rw [hvm.findClass]; exact h1
  have f2 : U.vm.findClass ("[" ++ (FieldType.array t).toString) = some c := by rw [hvm.findClass]; exact h5
  unfold va_AOA Cond.before Cond.holds
  simp only [Cond.value]
  rw [f1, Option.bind_some]
  refine (congrArg (fun o : Option Nat => (o.bind (fun c => (U.vm.classes[c]?).map fun (k : Class) => match k.kind with | .array _ ty => decide (ty = FieldType.array t) && decide (U.vm.findClass ("[" ++ (FieldType.array t).toString) = some c) | _ => false) == some true)) hi).trans ?_
  simp [hk', hkind, f2]
/-! the statics and the text constants -/
def zTab (nm : String) (N : Nat) (xs : List Int32) (A : Nat → Prop) (U : State) (H : Heap) : Prop := ∃ t : Nat, va_Z "LandGoods" nm "[I" (.ref t) A U H ∧ va_T .int t N (fun j => .int (xs.getD j 0)) A U H
theorem zTab.moved {nm : String} {N : Nat} {xs : List Int32} {A : Nat → Prop} {u U : State} {H : Heap} (hvm : u.vm.Alike U.vm) (h : zTab nm N xs A u H) : zTab nm N xs A U H := by
  obtain ⟨t, a, b⟩ := h
  exact ⟨t, a.moved hvm, b.moved hvm⟩
theorem zTab.kept {nm : String} {N : Nat} {xs : List Int32} {A : Nat → Prop} {U : State} {H H1 : Heap} (h : zTab nm N xs A U H) (hq : ∀ a : Nat, a < H.size → ¬ A a → H1[a]? = H[a]?) : zTab nm N xs A U H1 := by
  obtain ⟨t, a, b⟩ := h
  exact ⟨t, a.kept hq, b.kept hq⟩
theorem zTab.narrow {nm : String} {N : Nat} {xs : List Int32} {A B : Nat → Prop} {U : State} {H : Heap} (h : zTab nm N xs A U H) (hAB : ∀ q, B q → A q) : zTab nm N xs B U H := by
  obtain ⟨t, a, b⟩ := h
  exact ⟨t, a.narrow hAB, b.narrow hAB⟩
abbrev zRings : List Int32 := [17, 25, 26, 153, 209]
abbrev zSizes : List Int32 := [10, 11, 12, 13, 14, 15]
abbrev zMarks : List Int32 := [20, 21, 20, 22, 23, 23]
abbrev zTexts : List (List Int32) := [[103, 111, 111, 100], [108, 97, 110, 100]]
/-- the texts lie at ad 1000, ad 1001; their bytes at ad 1010, ad 1011 -/
def zStr (ad : Nat → Nat) (A : Nat → Prop) (U : State) (H : Heap) : Prop := vk_S 2 [4, 4] zTexts (fun i => ad (1000 + i)) (fun i => ad (1010 + i)) A U H ∧ vk_R "LandGoods$Tape" 90 "good" (ad 1000) U ∧ vk_R "LandGoods$Tape" 96 "land" (ad 1001) U
def zSx (ad : Nat → Nat) (A : Nat → Prop) (U : State) (H : Heap) : Prop := zTab "RINGS" 5 zRings A U H ∧ zTab "SIZE_BODIES" 6 zSizes A U H ∧ zTab "MARK_BODIES" 6 zMarks A U H ∧ va_Z "java/lang/String" "COMPACT_STRINGS" "Z" (.int 1) A U H ∧ (∃ r : Option Nat, va_Z "jdk/internal/util/Preconditions" "SIOOBE_FORMATTER" "Ljava/util/function/BiFunction;" (va_rf r) A U H) ∧ zStr ad A U H ∧ va_Nw (.methodLinkNest "LandGoods$Rest" 95 ⟨"LandGoods", "commonDivisor", "(JJ)J"⟩ "LandGoods") U ∧ va_AOA .int U
theorem zSx.pass {ad : Nat → Nat} {A B : Nat → Prop} {s U : State} {H : Heap} {locs : List Loc} (h : zSx ad A s s.heap) (hS : va_S A s.heap H locs) (hU : U.heap = H) (hW : s.WarmedH U.vm) (hAB : ∀ q, B q → A q) : zSx ad B U U.heap := by
  obtain ⟨h1, h2, h3, h4, ⟨v, h5⟩, ⟨h6, h7, h8⟩, h9, h10⟩ := h
  have ha := hW.alike
  rw [hU]
  exact ⟨((h1.kept hS.2.1).narrow hAB).moved ha, ((h2.kept hS.2.1).narrow hAB).moved ha, ((h3.kept hS.2.1).narrow hAB).moved ha, ((h4.kept hS.2.1).narrow hAB).moved ha, ⟨v, ((h5.kept hS.2.1).narrow hAB).moved ha⟩, ⟨((h6.kept hS.2.1).narrow hAB).moved ha, h7.warm hW, h8.warm hW⟩, h9.warmM hW, h10.moved ha⟩
theorem zSx.same {ad : Nat → Nat} {A : Nat → Prop} {u U : State} {H : Heap} (hv : U.vm = u.vm) (h : zSx ad A u H) : zSx ad A U H := by
  obtain ⟨h1, h2, h3, h4, ⟨v, h5⟩, ⟨h6, h7, h8⟩, h9, h10⟩ := h
  have ha : u.vm.Alike U.vm := by rw [hv]; exact Vm.Alike.refl u.vm
  exact ⟨h1.moved ha, h2.moved ha, h3.moved ha, h4.moved ha, ⟨v, h5.moved ha⟩, ⟨h6.moved ha, h7.same hv, h8.same hv⟩, h9.same rfl hv.symm, h10.moved ha⟩
/-! what stays through a method; what changes -/
def zCx (p : Program) (s : State) (m : MethodId) (args : Array Value) (meth : Method) (c : Code) (cc : ByteArray) (nL : Nat) (own : String) (ret : Option FieldType) (D : va_G) (ad : Nat → Nat) (cA : Nat → ClassId) (A : Nat → Prop) : Prop :=
  p.tables.exec = Jvm.exec ∧ c.code = cc ∧ c.maxLocals = nL ∧ s.vm.findClass own = some m.cls ∧ (∀ w ∈ ztb, w.before args s = true) ∧ va_K D zcl (ztys cA) s ∧ (∀ q, s.heap.size ≤ q → A q) ∧ meth.sig.returnType = ret ∧ meth.locks = false ∧ zSx ad A s s.heap
def zP (D : va_G) (sh : List Zc) (ad : Nat → Nat) (cA : Nat → ClassId) (A : Nat → Prop) (S : Zs) (s : State) (H : Heap) (locs : List Loc) : Prop :=
  va_P D zcl (zw sh ad cA S) H ∧ va_D A (zw sh ad cA S) ∧ va_S A s.heap H locs
def zB (D : va_G) (sh : List Zc) (ad : Nat → Nat) (cA : Nat → ClassId) (A : Nat → Prop) (S : Zs) (t : State) : Prop :=
  va_P D zcl (zw sh ad cA S) t.heap ∧ va_K D zcl (ztys cA) t ∧ va_D A (zw sh ad cA S)
abbrev zQi (D : va_G) (sh : List Zc) (ad : Nat → Nat) (cA : Nat → ClassId) (A : Nat → Prop) (z : Int32 × Zs) : Array Value → State → Outcome → State → Prop :=
  va_Qi (fun (r : Int32) (S : Zs) => r = z.1 ∧ S = z.2) (zB D sh ad cA A) A
abbrev zQb (D : va_G) (sh : List Zc) (ad : Nat → Nat) (cA : Nat → ClassId) (A : Nat → Prop) (z : Int32 × Zs) : Array Value → State → Outcome → State → Prop :=
  va_Qi (fun (r : Int32) (S : Zs) => (r = z.1 ∧ S = z.2) ∧ narrow .boolean (.int r) = .int r) (zB D sh ad cA A) A
abbrev zQl (D : va_G) (sh : List Zc) (ad : Nat → Nat) (cA : Nat → ClassId) (A : Nat → Prop) (z : Int64 × Zs) : Array Value → State → Outcome → State → Prop :=
  va_Ql (fun (r : Int64) (S : Zs) => r = z.1 ∧ S = z.2) (zB D sh ad cA A) A
abbrev zQv (D : va_G) (sh : List Zc) (ad : Nat → Nat) (cA : Nat → ClassId) (A : Nat → Prop) (z : Zs) : Array Value → State → Outcome → State → Prop :=
  va_Qv (fun (S : Zs) => S = z) (zB D sh ad cA A) A
abbrev zA (sh : List Zc) (ad : Nat → Nat) (cA : Nat → ClassId) (S : Zs) (sz : Nat) : Nat → Prop := va_A (zw sh ad cA S) sz
abbrev zPc (D : va_G) (sh : List Zc) (ad : Nat → Nat) (cA : Nat → ClassId) (sz : Nat) (S : Zs) (av : List Value) : Array Value → State → Prop :=
  va_Pc av (fun U => U.heap.size = sz ∧ va_P D zcl (zw sh ad cA S) U.heap ∧ va_K D zcl (ztys cA) U ∧ va_D (fun _ => True) (zw sh ad cA S) ∧ zSx ad (zA sh ad cA S sz) U U.heap)
abbrev zrm (f k : Nat) : Room := { frames := f, cells := 0, slots := 0, locals := k }
/-- the contracts: of an int, a boolean, a long, nothing -/
def zMi (l : Launch) (y : MethodName) (bytes : ByteArray) (maxL : Nat) (fr lo : Nat) (D : va_G) (sh : List Zc) (ad : Nat → Nat) (cA : Nat → ClassId) (S : Zs) (av : List Value) (z : Int32 × Zs) : Prop :=
  ∀ sz : Nat, Met l y (.code y bytes maxL (some .int) :: ztb) (zrm fr lo) (zPc D sh ad cA sz S av) (zQi D sh ad cA (zA sh ad cA S sz) z) 0 0 (zA sh ad cA S sz)
def zMb (l : Launch) (y : MethodName) (bytes : ByteArray) (maxL : Nat) (fr lo : Nat) (D : va_G) (sh : List Zc) (ad : Nat → Nat) (cA : Nat → ClassId) (S : Zs) (av : List Value) (z : Int32 × Zs) : Prop :=
  ∀ sz : Nat, Met l y (.code y bytes maxL (some .boolean) :: ztb) (zrm fr lo) (zPc D sh ad cA sz S av) (zQb D sh ad cA (zA sh ad cA S sz) z) 0 0 (zA sh ad cA S sz)
def zMl (l : Launch) (y : MethodName) (bytes : ByteArray) (maxL : Nat) (fr lo : Nat) (D : va_G) (sh : List Zc) (ad : Nat → Nat) (cA : Nat → ClassId) (S : Zs) (av : List Value) (z : Int64 × Zs) : Prop :=
  ∀ sz : Nat, Met l y (.code y bytes maxL (some .long) :: ztb) (zrm fr lo) (zPc D sh ad cA sz S av) (zQl D sh ad cA (zA sh ad cA S sz) z) 0 0 (zA sh ad cA S sz)
def zMv (l : Launch) (y : MethodName) (bytes : ByteArray) (maxL : Nat) (fr lo : Nat) (D : va_G) (sh : List Zc) (ad : Nat → Nat) (cA : Nat → ClassId) (S : Zs) (av : List Value) (z : Zs) : Prop :=
  ∀ sz : Nat, Met l y (.code y bytes maxL none :: ztb) (zrm fr lo) (zPc D sh ad cA sz S av) (zQv D sh ad cA (zA sh ad cA S sz) z) 0 0 (zA sh ad cA S sz)
/-- from a walk of the body to a contract -/
theorem z_enter {l : Launch} {y : MethodName} {bytes : ByteArray} {maxL fr lo : Nat} {ret : Option FieldType} {D : va_G} {sh : List Zc} {ad : Nat → Nat} {cA : Nat → ClassId} {S : Zs} {av : List Value} {Qc : (Nat → Prop) → Array Value → State → Outcome → State → Prop} (hy : plainName y.cls = true) (hav : (lg_sl av).length ≤ maxL)
    (body : ∀ (p : Program) (e : Env) (s : State) (m : MethodId) (below : List Frame) (meth : Method) (c : Code) (A : Nat → Prop), zCx p s m av.toArray meth c bytes maxL y.cls ret D ad cA A → zP D sh ad cA A S s s.heap [] → ∀ ls : Array Slot, lv_has ls maxL (lv_args 0 av) →
      W p l e (zrm fr lo) s m av.toArray below meth c s.heap [] 0 0 (MQ below (Qc A) av.toArray s 0 0 A) (F0 m 0 ls [])) :
    ∀ sz : Nat, Met l y (.code y bytes maxL ret :: ztb) (zrm fr lo) (zPc D sh ad cA sz S av) (Qc (zA sh ad cA S sz)) 0 0 (zA sh ad cA S sz) := by
  intro sz
  refine Met.ofW (cc := bytes) (maxL := maxL) (ret := ret) hy rfl ?_
  intro p e s m args below meth c s₁ B hml hv
  obtain ⟨rfl, hsz, hP, hK, hD0, hSx⟩ := hv
  have hts := atoms_spec (ws := .code y bytes maxL ret :: ztb) B.pre
  subst hsz
  rw [lg_entry_eq]
  exact body p e s m below meth c (zA sh ad cA S s.heap.size) ⟨B.exec, B.bytes, hml, findClass_of_methodNamed B.named, fun w hw => hts w (List.mem_cons_of_mem _ hw), hK, fun q h => Or.inr h, B.returns, B.notSynchronized, hSx⟩ ⟨hP, hD0.self, va_S.rf⟩ _ (lv_entry av hav)
section ZK
variable {p : Program} {l : Launch} {e : Env} {R : Room} {s : State} {m : MethodId} {args : Array Value} {below : List Frame} {meth : Method} {c : Code} {H : Heap} {locs : List Loc} {cells slots : Nat} {Q : State → Prop}
variable {cc : ByteArray} {nL pc : Nat} {own : String} {ret : Option FieldType} {D : va_G} {cA : Nat → ClassId} {A : Nat → Prop} {ls : Array Slot} {rest : List Value} {sh : List Zc} {ad : Nat → Nat} {S : Zs}
/-! a name for a value -/
theorem z_topi {β : Type} {z : β} {x : Int32} {F : Int32 → β} (h : lt_ x F = z) (k : ∀ v : Int32, F v = z → W p l e R s m args below meth c H locs cells slots Q (F0 m pc ls (.int v :: rest))) : W p l e R s m args below meth c H locs cells slots Q (F0 m pc ls (.int x :: rest)) := k x h
theorem z_topl {β : Type} {z : β} {x : Int64} {F : Int64 → β} (h : lt_ x F = z) (k : ∀ v : Int64, F v = z → W p l e R s m args below meth c H locs cells slots Q (F0 m pc ls (.long v :: rest))) : W p l e R s m args below meth c H locs cells slots Q (F0 m pc ls (.long x :: rest)) := k x h
/-! ends -/
theorem z_iret (C : zCx p s m args meth c cc nL own (some .int) D ad cA A) (P : zP D sh ad cA A S s H locs) {v : Int32} {z : Int32 × Zs} (hz : (v, S) = z) (hdg : decode cc pc = .ok (.ireturn, 1)) : W p l e R s m args below meth c H locs cells slots (MQ below (zQi D sh ad cA A z) args s cells slots A) (F0 m pc ls [.int v]) := by
  subst hz
  obtain ⟨hx, hb, hml, hown, hts, hK, hA, hr, hlk, -⟩ := C
  exact W.iret hx hb hr (fun t ht hW => ⟨⟨v, S, rfl, ⟨rfl, rfl⟩, by rw [ht]; exact P.1, va_K.moved hW.alike hK, P.2.1⟩, P.2.2.F ht⟩) P.2.2.2.2 hdg hlk
theorem z_zret (C : zCx p s m args meth c cc nL own (some .boolean) D ad cA A) (P : zP D sh ad cA A S s H locs) {v : Int32} {z : Int32 × Zs} (hz : (v, S) = z) (hn : narrow .boolean (.int v) = .int v) (hdg : decode cc pc = .ok (.ireturn, 1)) : W p l e R s m args below meth c H locs cells slots (MQ below (zQb D sh ad cA A z) args s cells slots A) (F0 m pc ls [.int v]) := by
  subst hz
  obtain ⟨hx, hb, hml, hown, hts, hK, hA, hr, hlk, -⟩ := C
  exact W.zret hx hb hr hn (fun t ht hW => ⟨⟨v, S, rfl, ⟨⟨rfl, rfl⟩, hn⟩, by rw [ht]; exact P.1, va_K.moved hW.alike hK, P.2.1⟩, P.2.2.F ht⟩) P.2.2.2.2 hdg hlk
theorem z_lret (C : zCx p s m args meth c cc nL own (some .long) D ad cA A) (P : zP D sh ad cA A S s H locs) {v : Int64} {z : Int64 × Zs} (hz : (v, S) = z) (hdg : decode cc pc = .ok (.lreturn, 1)) : W p l e R s m args below meth c H locs cells slots (MQ below (zQl D sh ad cA A z) args s cells slots A) (F0 m pc ls [.long v]) := by
  subst hz
  obtain ⟨hx, hb, hml, hown, hts, hK, hA, hr, hlk, -⟩ := C
  exact W.lret hx hb hr (fun t ht hW => ⟨⟨v, S, rfl, ⟨rfl, rfl⟩, by rw [ht]; exact P.1, va_K.moved hW.alike hK, P.2.1⟩, P.2.2.F ht⟩) P.2.2.2.2 hdg hlk
theorem z_vret (C : zCx p s m args meth c cc nL own none D ad cA A) (P : zP D sh ad cA A S s H locs) {z : Zs} (hz : S = z) (hdg : decode cc pc = .ok (.return_, 1)) : W p l e R s m args below meth c H locs cells slots (MQ below (zQv D sh ad cA A z) args s cells slots A) (F0 m pc ls []) := by
  subst hz
  obtain ⟨hx, hb, hml, hown, hts, hK, hA, hr, hlk, -⟩ := C
  exact W.vret hx hb hr (fun t ht hW => ⟨⟨S, rfl, rfl, by rw [ht]; exact P.1, va_K.moved hW.alike hK, P.2.1⟩, P.2.2.F ht⟩) P.2.2.2.2 hdg hlk
/-! fields -/
theorem z_getI (C : zCx p s m args meth c cc nL own ret D ad cA A) (P : zP D sh ad cA A S s H locs) {ci N index : Nat} {Cn ref : String} {T : u_T} (hc : zcl[ci]? = some (Cn, T, N)) (hin : ∀ w ∈ u_ws Cn T N, w ∈ ztb) (k : Nat) (hk : k < N) (href : (T k).1 = ref) (hlink : Cond.fieldLink own index ref (T k).2.1 (T k).2.2.1 ∈ ztb) {o : Nat} {fs : List Zf} (hs : sh[o]? = some (.inl (ci, fs))) (hf : fs[k]? = some (.inl 0)) (hdg : decode cc pc = .ok (.getfield index, 3))
    (kk : W p l e R s m args below meth c H locs cells slots Q (F0 m (pc + 3) ls (.int (S.1 o k) :: rest))) : W p l e R s m args below meth c H locs cells slots Q (F0 m pc ls (.ref (ad o) :: rest)) := by
  subst href
  obtain ⟨hx, hb, hml, hown, hts, hK, -⟩ := C
  refine va_get (D := D) (ci := ci) (v := .int (S.1 o k)) (C := Cn) (T := T) (N := N) hx hb hts hin hown hK P.1 o (zw_at hs) hc k hk (hts _ hlink) (fun _ h9 => h9) ?_ hdg kk
  rw [List.getElem?_mapIdx, hf]
  rfl
theorem z_getL (C : zCx p s m args meth c cc nL own ret D ad cA A) (P : zP D sh ad cA A S s H locs) {ci N index : Nat} {Cn ref : String} {T : u_T} (hc : zcl[ci]? = some (Cn, T, N)) (hin : ∀ w ∈ u_ws Cn T N, w ∈ ztb) (k : Nat) (hk : k < N) (href : (T k).1 = ref) (hlink : Cond.fieldLink own index ref (T k).2.1 (T k).2.2.1 ∈ ztb) {o : Nat} {fs : List Zf} (hs : sh[o]? = some (.inl (ci, fs))) (hf : fs[k]? = some (.inl 1)) (hdg : decode cc pc = .ok (.getfield index, 3))
    (kk : W p l e R s m args below meth c H locs cells slots Q (F0 m (pc + 3) ls (.long (S.2 o k) :: rest))) : W p l e R s m args below meth c H locs cells slots Q (F0 m pc ls (.ref (ad o) :: rest)) := by
  subst href
  obtain ⟨hx, hb, hml, hown, hts, hK, -⟩ := C
  refine va_get (D := D) (ci := ci) (v := .long (S.2 o k)) (C := Cn) (T := T) (N := N) hx hb hts hin hown hK P.1 o (zw_at hs) hc k hk (hts _ hlink) (fun _ h9 => h9) ?_ hdg kk
  rw [List.getElem?_mapIdx, hf]
  rfl
theorem z_getR (C : zCx p s m args meth c cc nL own ret D ad cA A) (P : zP D sh ad cA A S s H locs) {ci N index : Nat} {Cn ref : String} {T : u_T} (hc : zcl[ci]? = some (Cn, T, N)) (hin : ∀ w ∈ u_ws Cn T N, w ∈ ztb) (k : Nat) (hk : k < N) (href : (T k).1 = ref) (hlink : Cond.fieldLink own index ref (T k).2.1 (T k).2.2.1 ∈ ztb) {o q : Nat} {fs : List Zf} (hs : sh[o]? = some (.inl (ci, fs))) (hf : fs[k]? = some (.inr q)) (hdg : decode cc pc = .ok (.getfield index, 3))
    (kk : W p l e R s m args below meth c H locs cells slots Q (F0 m (pc + 3) ls (.ref (ad q) :: rest))) : W p l e R s m args below meth c H locs cells slots Q (F0 m pc ls (.ref (ad o) :: rest)) := by
  subst href
  obtain ⟨hx, hb, hml, hown, hts, hK, -⟩ := C
  refine va_get (D := D) (ci := ci) (v := .ref (ad q)) (C := Cn) (T := T) (N := N) hx hb hts hin hown hK P.1 o (zw_at hs) hc k hk (hts _ hlink) (fun _ h9 => h9) ?_ hdg kk
  rw [List.getElem?_mapIdx, hf]
  rfl
theorem z_putI (C : zCx p s m args meth c cc nL own ret D ad cA A) (P : zP D sh ad cA A S s H locs) {ci N index : Nat} {Cn ref : String} {T : u_T} (hc : zcl[ci]? = some (Cn, T, N)) (hin : ∀ w ∈ u_ws Cn T N, w ∈ ztb) (ty0 : Nat → FieldType) (hty : ∀ k, k < N → parseFieldDescriptor (T k).2.2.1 = some (ty0 k)) (hnm : ∀ a, a < N → ∀ b, b < N → a ≠ b → (T a).2.1 ≠ (T b).2.1) (k : Nat) (hk : k < N) (href : (T k).1 = ref) (hfin : (T k).2.2.2 = false) (hlink : Cond.fieldLink own index ref (T k).2.1 (T k).2.2.1 ∈ ztb) {o : Nat} {fs : List Zf} (hs : sh[o]? = some (.inl (ci, fs))) (hf : fs[k]? = some (.inl 0)) (hdg : decode cc pc = .ok (.putfield index, 3)) {v : Int32} (hn : narrow (ty0 k) (.int v) = .int v) (hfit : fits (ty0 k) (.int v) = true) {β : Type} {z : β} {F : Zs → β} (h : lt_ (zI S o k v) F = z)
    (kk : ∀ (S1 : Zs) (H1 : Heap) (locs1 : List Loc), F S1 = z → zP D sh ad cA A S1 s H1 locs1 → W p l e R s m args below meth c H1 locs1 cells slots Q (F0 m (pc + 3) ls rest)) : W p l e R s m args below meth c H locs cells slots Q (F0 m pc ls (.int v :: .ref (ad o) :: rest)) := by
  subst href
  obtain ⟨hx, hb, hml, hown, hts, hK, -⟩ := C
  refine va_put (D := D) (ci := ci) (v := .int v) (ty := ty0 k) (C := Cn) (T := T) (N := N) hx hb hts hin ty0 hty hnm hown hK P.1 P.2.1 P.2.2 o (zw_at hs) hc k hk (hts _ hlink) (fun _ h9 => h9) hfin (hty k hk) hn hfit (by simp; exact (List.getElem?_eq_some_iff.mp hf).1) hdg (fun H1 locs1 hP hD hS => ?_)
  rw [zfs_I hf, show ((ad o, (.inr (ci, fs.mapIdx (fun i f => zfv ad (zI S o k v) o i f)) : va_E)) : Nat × va_E) = (ad o, zcel ad cA (zI S o k v) o (.inl (ci, fs))) from rfl, zw_set hs (fun i y hi => zcel_eq (zI_1n S k v hi) rfl y)] at hP hD
  exact kk (zI S o k v) H1 locs1 h ⟨hP, hD, hS⟩
theorem z_putL (C : zCx p s m args meth c cc nL own ret D ad cA A) (P : zP D sh ad cA A S s H locs) {ci N index : Nat} {Cn ref : String} {T : u_T} (hc : zcl[ci]? = some (Cn, T, N)) (hin : ∀ w ∈ u_ws Cn T N, w ∈ ztb) (ty0 : Nat → FieldType) (hty : ∀ k, k < N → parseFieldDescriptor (T k).2.2.1 = some (ty0 k)) (hnm : ∀ a, a < N → ∀ b, b < N → a ≠ b → (T a).2.1 ≠ (T b).2.1) (k : Nat) (hk : k < N) (href : (T k).1 = ref) (hfin : (T k).2.2.2 = false) (hlink : Cond.fieldLink own index ref (T k).2.1 (T k).2.2.1 ∈ ztb) {o : Nat} {fs : List Zf} (hs : sh[o]? = some (.inl (ci, fs))) (hf : fs[k]? = some (.inl 1)) (hdg : decode cc pc = .ok (.putfield index, 3)) {v : Int64} (hn : narrow (ty0 k) (.long v) = .long v) (hfit : fits (ty0 k) (.long v) = true) {β : Type} {z : β} {F : Zs → β} (h : lt_ (zL S o k v) F = z)
    (kk : ∀ (S1 : Zs) (H1 : Heap) (locs1 : List Loc), F S1 = z → zP D sh ad cA A S1 s H1 locs1 → W p l e R s m args below meth c H1 locs1 cells slots Q (F0 m (pc + 3) ls rest)) : W p l e R s m args below meth c H locs cells slots Q (F0 m pc ls (.long v :: .ref (ad o) :: rest)) := by
  subst href
  obtain ⟨hx, hb, hml, hown, hts, hK, -⟩ := C
  refine va_put (D := D) (ci := ci) (v := .long v) (ty := ty0 k) (C := Cn) (T := T) (N := N) hx hb hts hin ty0 hty hnm hown hK P.1 P.2.1 P.2.2 o (zw_at hs) hc k hk (hts _ hlink) (fun _ h9 => h9) hfin (hty k hk) hn hfit (by simp; exact (List.getElem?_eq_some_iff.mp hf).1) hdg (fun H1 locs1 hP hD hS => ?_)
  rw [zfs_L hf, show ((ad o, (.inr (ci, fs.mapIdx (fun i f => zfv ad (zL S o k v) o i f)) : va_E)) : Nat × va_E) = (ad o, zcel ad cA (zL S o k v) o (.inl (ci, fs))) from rfl, zw_set (S := S) (S' := zL S o k v) hs (fun i y hi => zcel_eq (S := S) (S' := zL S o k v) rfl (zL_2n S k v hi) y)] at hP hD
  exact kk (zL S o k v) H1 locs1 h ⟨hP, hD, hS⟩
/-! arrays -/
theorem z_in {i : Int32} {n : Nat} (h : inb i n = true) : vp_in i n := by
  unfold inb at h
  unfold vp_in
  exact of_decide_eq_true h
theorem z_iald (C : zCx p s m args meth c cc nL own ret D ad cA A) (P : zP D sh ad cA A S s H locs) {q n : Nat} {rs : List Nat} (hs : sh[q]? = some (.inr (0, n, rs))) (hdg : decode cc pc = .ok (.iaload, 1)) {i : Int32} {β : Type} {z : β} {X : Option β} (h : (if inb i n = true then X else none) = some z)
    (kk : X = some z → inb i n = true → W p l e R s m args below meth c H locs cells slots Q (F0 m (pc + 1) ls (.int (S.1 q i.toNatClampNeg) :: rest))) : W p l e R s m args below meth c H locs cells slots Q (F0 m pc ls (.int i :: .ref (ad q) :: rest)) := by
  obtain ⟨hx, hb, hml, hown, hts, hK, -⟩ := C
  by_cases hi : inb i n = true
  · rw [if_pos hi] at h
    exact va_iald hx hb hK P.1 q 0 (zw_at hs) rfl (z_in hi) hdg (kk h hi)
  · rw [if_neg hi] at h
    cases h
theorem z_bald (C : zCx p s m args meth c cc nL own ret D ad cA A) (P : zP D sh ad cA A S s H locs) {q n : Nat} {rs : List Nat} (hs : sh[q]? = some (.inr (2, n, rs))) (hdg : decode cc pc = .ok (.baload, 1)) {i : Int32} {β : Type} {z : β} {X : Option β} (h : (if inb i n = true then X else none) = some z)
    (kk : X = some z → inb i n = true → W p l e R s m args below meth c H locs cells slots Q (F0 m (pc + 1) ls (.int (S.1 q i.toNatClampNeg) :: rest))) : W p l e R s m args below meth c H locs cells slots Q (F0 m pc ls (.int i :: .ref (ad q) :: rest)) := by
  obtain ⟨hx, hb, hml, hown, hts, hK, -⟩ := C
  by_cases hi : inb i n = true
  · rw [if_pos hi] at h
    exact va_bald hx hb hK P.1 q 2 (zw_at hs) rfl (z_in hi) hdg (kk h hi)
  · rw [if_neg hi] at h
    cases h
theorem z_lald (C : zCx p s m args meth c cc nL own ret D ad cA A) (P : zP D sh ad cA A S s H locs) {q n : Nat} {rs : List Nat} (hs : sh[q]? = some (.inr (1, n, rs))) (hdg : decode cc pc = .ok (.laload, 1)) {i : Int32} {β : Type} {z : β} {X : Option β} (h : (if inb i n = true then X else none) = some z)
    (kk : X = some z → inb i n = true → W p l e R s m args below meth c H locs cells slots Q (F0 m (pc + 1) ls (.long (S.2 q i.toNatClampNeg) :: rest))) : W p l e R s m args below meth c H locs cells slots Q (F0 m pc ls (.int i :: .ref (ad q) :: rest)) := by
  obtain ⟨hx, hb, hml, hown, hts, hK, -⟩ := C
  by_cases hi : inb i n = true
  · rw [if_pos hi] at h
    exact va_lald hx hb hK P.1 q 1 (zw_at hs) rfl (z_in hi) hdg (kk h hi)
  · rw [if_neg hi] at h
    cases h
theorem z_aald (C : zCx p s m args meth c cc nL own ret D ad cA A) (P : zP D sh ad cA A S s H locs) {q n w base : Nat} {rs : List Nat} (hs : sh[q]? = some (.inr (3, n, rs))) (hrs : ∀ j, j < n → rs[j]? = some (base + j)) (hrow : ∀ j, j < n → sh[base + j]? = some (.inr (0, w, []))) (hdg : decode cc pc = .ok (.aaload, 1)) {i : Int32} {β : Type} {z : β} {X : Option β} (h : (if inb i n = true then X else none) = some z)
    (kk : X = some z → sh[base + i.toNatClampNeg]? = some (.inr (0, w, [])) → W p l e R s m args below meth c H locs cells slots Q (F0 m (pc + 1) ls (.ref (ad (base + i.toNatClampNeg)) :: rest))) : W p l e R s m args below meth c H locs cells slots Q (F0 m pc ls (.int i :: .ref (ad q) :: rest)) := by
  obtain ⟨hx, hb, hml, hown, hts, hK, -⟩ := C
  by_cases hi : inb i n = true
  · rw [if_pos hi] at h
    have hin := z_in hi
    have hlt : i.toNatClampNeg < n := Nat.not_le.mp fun q => hin (Or.inr q)
    refine W.aald (v := .ref (ad (base + i.toNatClampNeg))) (ty := .array .int) hx hb (P.1 q _ (zw_at hs)) ((hK.2 3 (cA 3, .array .int) rfl).1 n (fun j => va_rf ((rs[j]?).map ad))) rfl (fun q => by cases q) (by show ¬ (i < 0 ∨ (arrV _ _ _).slots.size ≤ _); rw [arrV_size]; exact hin) (by show (arrV _ _ _).slots[_]? = _; rw [arrV_read _ _ hlt]; show some (va_rf ((rs[_]?).map ad)) = _; rw [hrs _ hlt]; rfl) rfl rfl hdg (kk h (hrow _ hlt))
  · rw [if_neg hi] at h
    cases h
theorem z_iast (C : zCx p s m args meth c cc nL own ret D ad cA A) (P : zP D sh ad cA A S s H locs) {q n : Nat} {rs : List Nat} (hs : sh[q]? = some (.inr (0, n, rs))) (hdg : decode cc pc = .ok (.iastore, 1)) {i v : Int32} {β : Type} {z : β} {F : Zs → Option β} (h : (if inb i n = true then lt_ (zI S q i.toNatClampNeg v) F else none) = some z)
    (kk : ∀ (S1 : Zs) (H1 : Heap) (locs1 : List Loc), F S1 = some z → zP D sh ad cA A S1 s H1 locs1 → W p l e R s m args below meth c H1 locs1 cells slots Q (F0 m (pc + 1) ls rest)) : W p l e R s m args below meth c H locs cells slots Q (F0 m pc ls (.int v :: .int i :: .ref (ad q) :: rest)) := by
  obtain ⟨hx, hb, hml, hown, hts, hK, -⟩ := C
  by_cases hi : inb i n = true
  · rw [if_pos hi] at h
    refine va_iast hx hb hK P.1 P.2.1 P.2.2 q 0 (zw_at hs) rfl (z_in hi) hdg (fun H1 locs1 hP hD hS => ?_)
    rw [← zI_1 S q i.toNatClampNeg v, show ((ad q, (.inl (cA 0, n, .inl ((zI S q i.toNatClampNeg v).1 q)) : va_E)) : Nat × va_E) = (ad q, zcel ad cA (zI S q i.toNatClampNeg v) q (.inr (0, n, rs))) from rfl, zw_set hs (fun i9 y hi9 => zcel_eq (zI_1n S _ v hi9) rfl y)] at hP hD
    exact kk _ H1 locs1 h ⟨hP, hD, hS⟩
  · rw [if_neg hi] at h
    cases h
theorem z_bast (C : zCx p s m args meth c cc nL own ret D ad cA A) (P : zP D sh ad cA A S s H locs) {q n : Nat} {rs : List Nat} (hs : sh[q]? = some (.inr (2, n, rs))) (hdg : decode cc pc = .ok (.bastore, 1)) {i v : Int32} {β : Type} {z : β} {F : Zs → Option β} (h : (if inb i n = true then lt_ (zI S q i.toNatClampNeg v.toInt8.toInt32) F else none) = some z)
    (kk : ∀ (S1 : Zs) (H1 : Heap) (locs1 : List Loc), F S1 = some z → zP D sh ad cA A S1 s H1 locs1 → W p l e R s m args below meth c H1 locs1 cells slots Q (F0 m (pc + 1) ls rest)) : W p l e R s m args below meth c H locs cells slots Q (F0 m pc ls (.int v :: .int i :: .ref (ad q) :: rest)) := by
  obtain ⟨hx, hb, hml, hown, hts, hK, -⟩ := C
  by_cases hi : inb i n = true
  · rw [if_pos hi] at h
    refine va_bast hx hb hK P.1 P.2.1 P.2.2 q 2 (zw_at hs) rfl (z_in hi) hdg (fun H1 locs1 hP hD hS => ?_)
    rw [vp_nar_byte, ← zI_1 S q i.toNatClampNeg v.toInt8.toInt32, show ((ad q, (.inl (cA 2, n, .inl ((zI S q i.toNatClampNeg v.toInt8.toInt32).1 q)) : va_E)) : Nat × va_E) = (ad q, zcel ad cA (zI S q i.toNatClampNeg v.toInt8.toInt32) q (.inr (2, n, rs))) from rfl, zw_set hs (fun i9 y hi9 => zcel_eq (zI_1n S _ _ hi9) rfl y)] at hP hD
    exact kk _ H1 locs1 h ⟨hP, hD, hS⟩
  · rw [if_neg hi] at h
    cases h
theorem z_last (C : zCx p s m args meth c cc nL own ret D ad cA A) (P : zP D sh ad cA A S s H locs) {q n : Nat} {rs : List Nat} (hs : sh[q]? = some (.inr (1, n, rs))) (hdg : decode cc pc = .ok (.lastore, 1)) {i : Int32} {v : Int64} {β : Type} {z : β} {F : Zs → Option β} (h : (if inb i n = true then lt_ (zL S q i.toNatClampNeg v) F else none) = some z)
    (kk : ∀ (S1 : Zs) (H1 : Heap) (locs1 : List Loc), F S1 = some z → zP D sh ad cA A S1 s H1 locs1 → W p l e R s m args below meth c H1 locs1 cells slots Q (F0 m (pc + 1) ls rest)) : W p l e R s m args below meth c H locs cells slots Q (F0 m pc ls (.long v :: .int i :: .ref (ad q) :: rest)) := by
  obtain ⟨hx, hb, hml, hown, hts, hK, -⟩ := C
  by_cases hi : inb i n = true
  · rw [if_pos hi] at h
    refine va_last hx hb hK P.1 P.2.1 P.2.2 q 1 (zw_at hs) rfl (z_in hi) hdg (fun H1 locs1 hP hD hS => ?_)
    rw [← zL_2 S q i.toNatClampNeg v, show ((ad q, (.inl (cA 1, n, .inr (.inl ((zL S q i.toNatClampNeg v).2 q))) : va_E)) : Nat × va_E) = (ad q, zcel ad cA (zL S q i.toNatClampNeg v) q (.inr (1, n, rs))) from rfl, zw_set (S := S) (S' := zL S q i.toNatClampNeg v) hs (fun i9 y hi9 => zcel_eq (S := S) (S' := zL S q i.toNatClampNeg v) rfl (zL_2n S _ v hi9) y)] at hP hD
    exact kk _ H1 locs1 h ⟨hP, hD, hS⟩
  · rw [if_neg hi] at h
    cases h
theorem z_idiv (hx : p.tables.exec = Jvm.exec) (hb : c.code = cc) {x y : Int32} (hdg : decode cc pc = .ok (.idiv, 1)) {β : Type} {z : β} {X : Option β} (h : (if y = 0 then none else X) = some z) (kk : X = some z → W p l e R s m args below meth c H locs cells slots Q (F0 m (pc + 1) ls (.int (x / y) :: rest))) : W p l e R s m args below meth c H locs cells slots Q (F0 m pc ls (.int y :: .int x :: rest)) := by
  by_cases hy : y = 0
  · rw [if_pos hy] at h; cases h
  · rw [if_neg hy] at h; exact lv_idiv hx hb hdg hy (kk h)
theorem z_irem (hx : p.tables.exec = Jvm.exec) (hb : c.code = cc) {x y : Int32} (hdg : decode cc pc = .ok (.irem, 1)) {β : Type} {z : β} {X : Option β} (h : (if y = 0 then none else X) = some z) (kk : X = some z → W p l e R s m args below meth c H locs cells slots Q (F0 m (pc + 1) ls (.int (x - x / y * y) :: rest))) : W p l e R s m args below meth c H locs cells slots Q (F0 m pc ls (.int y :: .int x :: rest)) := by
  by_cases hy : y = 0
  · rw [if_pos hy] at h; cases h
  · rw [if_neg hy] at h; exact lv_irem hx hb hdg hy (kk h)
theorem z_ldiv (hx : p.tables.exec = Jvm.exec) (hb : c.code = cc) {x y : Int64} (hdg : decode cc pc = .ok (.ldiv, 1)) {β : Type} {z : β} {X : Option β} (h : (if y = 0 then none else X) = some z) (kk : X = some z → W p l e R s m args below meth c H locs cells slots Q (F0 m (pc + 1) ls (.long (x / y) :: rest))) : W p l e R s m args below meth c H locs cells slots Q (F0 m pc ls (.long y :: .long x :: rest)) := by
  by_cases hy : y = 0
  · rw [if_pos hy] at h; cases h
  · rw [if_neg hy] at h; exact lv_ldiv hx hb hdg hy (kk h)
theorem z_lrem (hx : p.tables.exec = Jvm.exec) (hb : c.code = cc) {x y : Int64} (hdg : decode cc pc = .ok (.lrem, 1)) {β : Type} {z : β} {X : Option β} (h : (if y = 0 then none else X) = some z) (kk : X = some z → W p l e R s m args below meth c H locs cells slots Q (F0 m (pc + 1) ls (.long (x - x / y * y) :: rest))) : W p l e R s m args below meth c H locs cells slots Q (F0 m pc ls (.long y :: .long x :: rest)) := by
  by_cases hy : y = 0
  · rw [if_pos hy] at h; cases h
  · rw [if_neg hy] at h; exact lv_lrem hx hb hdg hy (kk h)
/-! branches, in step with an 'if' of the function -/
theorem z_if_eq (hx : p.tables.exec = Jvm.exec) (hb : c.code = cc) {x : Int32} {off : Int} {tgt : Nat} (hdg : decode cc pc = .ok (.ifCond .eq off, 3)) (ht : (pc : Int) + off = (tgt : Int)) {β : Type} {z X Y : β} (h : (if x = 0 then X else Y) = z) (kt : X = z → W p l e R s m args below meth c H locs cells slots Q (F0 m tgt ls rest)) (kf : Y = z → W p l e R s m args below meth c H locs cells slots Q (F0 m (pc + 3) ls rest)) : W p l e R s m args below meth c H locs cells slots Q (F0 m pc ls (.int x :: rest)) :=
  lv_if_eq hx hb hdg ht (fun q => kt (by rw [if_pos q] at h; exact h)) (fun q => kf (by rw [if_neg q] at h; exact h))
theorem z_icmp_eq (hx : p.tables.exec = Jvm.exec) (hb : c.code = cc) {x y : Int32} {off : Int} {tgt : Nat} (hdg : decode cc pc = .ok (.if_icmp .eq off, 3)) (ht : (pc : Int) + off = (tgt : Int)) {β : Type} {z X Y : β} (h : (if x = y then X else Y) = z) (kt : X = z → W p l e R s m args below meth c H locs cells slots Q (F0 m tgt ls rest)) (kf : Y = z → W p l e R s m args below meth c H locs cells slots Q (F0 m (pc + 3) ls rest)) : W p l e R s m args below meth c H locs cells slots Q (F0 m pc ls (.int y :: .int x :: rest)) :=
  lv_icmp_eq hx hb hdg ht (fun q => kt (by rw [if_pos q] at h; exact h)) (fun q => kf (by rw [if_neg q] at h; exact h))
theorem z_if_ne (hx : p.tables.exec = Jvm.exec) (hb : c.code = cc) {x : Int32} {off : Int} {tgt : Nat} (hdg : decode cc pc = .ok (.ifCond .ne off, 3)) (ht : (pc : Int) + off = (tgt : Int)) {β : Type} {z X Y : β} (h : (if x = 0 then X else Y) = z) (kt : Y = z → W p l e R s m args below meth c H locs cells slots Q (F0 m tgt ls rest)) (kf : X = z → W p l e R s m args below meth c H locs cells slots Q (F0 m (pc + 3) ls rest)) : W p l e R s m args below meth c H locs cells slots Q (F0 m pc ls (.int x :: rest)) :=
  lv_if_ne hx hb hdg ht (fun q => kt (by rw [if_neg q] at h; exact h)) (fun q => kf (by rw [if_pos q] at h; exact h))
theorem z_icmp_ne (hx : p.tables.exec = Jvm.exec) (hb : c.code = cc) {x y : Int32} {off : Int} {tgt : Nat} (hdg : decode cc pc = .ok (.if_icmp .ne off, 3)) (ht : (pc : Int) + off = (tgt : Int)) {β : Type} {z X Y : β} (h : (if x = y then X else Y) = z) (kt : Y = z → W p l e R s m args below meth c H locs cells slots Q (F0 m tgt ls rest)) (kf : X = z → W p l e R s m args below meth c H locs cells slots Q (F0 m (pc + 3) ls rest)) : W p l e R s m args below meth c H locs cells slots Q (F0 m pc ls (.int y :: .int x :: rest)) :=
  lv_icmp_ne hx hb hdg ht (fun q => kt (by rw [if_neg q] at h; exact h)) (fun q => kf (by rw [if_pos q] at h; exact h))
theorem z_if_lt (hx : p.tables.exec = Jvm.exec) (hb : c.code = cc) {x : Int32} {off : Int} {tgt : Nat} (hdg : decode cc pc = .ok (.ifCond .lt off, 3)) (ht : (pc : Int) + off = (tgt : Int)) {β : Type} {z X Y : β} (h : (if x < 0 then X else Y) = z) (kt : X = z → W p l e R s m args below meth c H locs cells slots Q (F0 m tgt ls rest)) (kf : Y = z → W p l e R s m args below meth c H locs cells slots Q (F0 m (pc + 3) ls rest)) : W p l e R s m args below meth c H locs cells slots Q (F0 m pc ls (.int x :: rest)) :=
  lv_if_lt hx hb hdg ht (fun q => kt (by rw [if_pos q] at h; exact h)) (fun q => kf (by rw [if_neg q] at h; exact h))
theorem z_icmp_lt (hx : p.tables.exec = Jvm.exec) (hb : c.code = cc) {x y : Int32} {off : Int} {tgt : Nat} (hdg : decode cc pc = .ok (.if_icmp .lt off, 3)) (ht : (pc : Int) + off = (tgt : Int)) {β : Type} {z X Y : β} (h : (if x < y then X else Y) = z) (kt : X = z → W p l e R s m args below meth c H locs cells slots Q (F0 m tgt ls rest)) (kf : Y = z → W p l e R s m args below meth c H locs cells slots Q (F0 m (pc + 3) ls rest)) : W p l e R s m args below meth c H locs cells slots Q (F0 m pc ls (.int y :: .int x :: rest)) :=
  lv_icmp_lt hx hb hdg ht (fun q => kt (by rw [if_pos q] at h; exact h)) (fun q => kf (by rw [if_neg q] at h; exact h))
theorem z_if_ge (hx : p.tables.exec = Jvm.exec) (hb : c.code = cc) {x : Int32} {off : Int} {tgt : Nat} (hdg : decode cc pc = .ok (.ifCond .ge off, 3)) (ht : (pc : Int) + off = (tgt : Int)) {β : Type} {z X Y : β} (h : (if 0 ≤ x then X else Y) = z) (kt : X = z → W p l e R s m args below meth c H locs cells slots Q (F0 m tgt ls rest)) (kf : Y = z → W p l e R s m args below meth c H locs cells slots Q (F0 m (pc + 3) ls rest)) : W p l e R s m args below meth c H locs cells slots Q (F0 m pc ls (.int x :: rest)) :=
  lv_if_ge hx hb hdg ht (fun q => kt (by rw [if_pos q] at h; exact h)) (fun q => kf (by rw [if_neg q] at h; exact h))
theorem z_icmp_ge (hx : p.tables.exec = Jvm.exec) (hb : c.code = cc) {x y : Int32} {off : Int} {tgt : Nat} (hdg : decode cc pc = .ok (.if_icmp .ge off, 3)) (ht : (pc : Int) + off = (tgt : Int)) {β : Type} {z X Y : β} (h : (if y ≤ x then X else Y) = z) (kt : X = z → W p l e R s m args below meth c H locs cells slots Q (F0 m tgt ls rest)) (kf : Y = z → W p l e R s m args below meth c H locs cells slots Q (F0 m (pc + 3) ls rest)) : W p l e R s m args below meth c H locs cells slots Q (F0 m pc ls (.int y :: .int x :: rest)) :=
  lv_icmp_ge hx hb hdg ht (fun q => kt (by rw [if_pos q] at h; exact h)) (fun q => kf (by rw [if_neg q] at h; exact h))
theorem z_if_gt (hx : p.tables.exec = Jvm.exec) (hb : c.code = cc) {x : Int32} {off : Int} {tgt : Nat} (hdg : decode cc pc = .ok (.ifCond .gt off, 3)) (ht : (pc : Int) + off = (tgt : Int)) {β : Type} {z X Y : β} (h : (if 0 < x then X else Y) = z) (kt : X = z → W p l e R s m args below meth c H locs cells slots Q (F0 m tgt ls rest)) (kf : Y = z → W p l e R s m args below meth c H locs cells slots Q (F0 m (pc + 3) ls rest)) : W p l e R s m args below meth c H locs cells slots Q (F0 m pc ls (.int x :: rest)) :=
  lv_if_gt hx hb hdg ht (fun q => kt (by rw [if_pos q] at h; exact h)) (fun q => kf (by rw [if_neg q] at h; exact h))
theorem z_icmp_gt (hx : p.tables.exec = Jvm.exec) (hb : c.code = cc) {x y : Int32} {off : Int} {tgt : Nat} (hdg : decode cc pc = .ok (.if_icmp .gt off, 3)) (ht : (pc : Int) + off = (tgt : Int)) {β : Type} {z X Y : β} (h : (if y < x then X else Y) = z) (kt : X = z → W p l e R s m args below meth c H locs cells slots Q (F0 m tgt ls rest)) (kf : Y = z → W p l e R s m args below meth c H locs cells slots Q (F0 m (pc + 3) ls rest)) : W p l e R s m args below meth c H locs cells slots Q (F0 m pc ls (.int y :: .int x :: rest)) :=
  lv_icmp_gt hx hb hdg ht (fun q => kt (by rw [if_pos q] at h; exact h)) (fun q => kf (by rw [if_neg q] at h; exact h))
theorem z_if_le (hx : p.tables.exec = Jvm.exec) (hb : c.code = cc) {x : Int32} {off : Int} {tgt : Nat} (hdg : decode cc pc = .ok (.ifCond .le off, 3)) (ht : (pc : Int) + off = (tgt : Int)) {β : Type} {z X Y : β} (h : (if x ≤ 0 then X else Y) = z) (kt : X = z → W p l e R s m args below meth c H locs cells slots Q (F0 m tgt ls rest)) (kf : Y = z → W p l e R s m args below meth c H locs cells slots Q (F0 m (pc + 3) ls rest)) : W p l e R s m args below meth c H locs cells slots Q (F0 m pc ls (.int x :: rest)) :=
  lv_if_le hx hb hdg ht (fun q => kt (by rw [if_pos q] at h; exact h)) (fun q => kf (by rw [if_neg q] at h; exact h))
theorem z_icmp_le (hx : p.tables.exec = Jvm.exec) (hb : c.code = cc) {x y : Int32} {off : Int} {tgt : Nat} (hdg : decode cc pc = .ok (.if_icmp .le off, 3)) (ht : (pc : Int) + off = (tgt : Int)) {β : Type} {z X Y : β} (h : (if x ≤ y then X else Y) = z) (kt : X = z → W p l e R s m args below meth c H locs cells slots Q (F0 m tgt ls rest)) (kf : Y = z → W p l e R s m args below meth c H locs cells slots Q (F0 m (pc + 3) ls rest)) : W p l e R s m args below meth c H locs cells slots Q (F0 m pc ls (.int y :: .int x :: rest)) :=
  lv_icmp_le hx hb hdg ht (fun q => kt (by rw [if_pos q] at h; exact h)) (fun q => kf (by rw [if_neg q] at h; exact h))
theorem z_lcmp_eq (hx : p.tables.exec = Jvm.exec) (hb : c.code = cc) {x y : Int64} {off : Int} {tgt : Nat} (hd0 : decode cc pc = .ok (.lcmp, 1)) (hdg : decode cc (pc + 1) = .ok (.ifCond .eq off, 3)) (ht : ((pc + 1 : Nat) : Int) + off = (tgt : Int)) {β : Type} {z X Y : β} (h : (if x = y then X else Y) = z) (kt : X = z → W p l e R s m args below meth c H locs cells slots Q (F0 m tgt ls rest)) (kf : Y = z → W p l e R s m args below meth c H locs cells slots Q (F0 m (pc + 1 + 3) ls rest)) : W p l e R s m args below meth c H locs cells slots Q (F0 m pc ls (.long y :: .long x :: rest)) := by
  refine W.lcmp hx hb hd0 ?_
  exact lv_if_eq hx hb hdg ht (fun q => kt (by rw [if_pos ((lg_cmp_eq x y).mp q)] at h; exact h)) (fun q => kf (by rw [if_neg (fun g => q ((lg_cmp_eq x y).mpr g))] at h; exact h))
theorem z_lcmp_ne (hx : p.tables.exec = Jvm.exec) (hb : c.code = cc) {x y : Int64} {off : Int} {tgt : Nat} (hd0 : decode cc pc = .ok (.lcmp, 1)) (hdg : decode cc (pc + 1) = .ok (.ifCond .ne off, 3)) (ht : ((pc + 1 : Nat) : Int) + off = (tgt : Int)) {β : Type} {z X Y : β} (h : (if x = y then X else Y) = z) (kt : Y = z → W p l e R s m args below meth c H locs cells slots Q (F0 m tgt ls rest)) (kf : X = z → W p l e R s m args below meth c H locs cells slots Q (F0 m (pc + 1 + 3) ls rest)) : W p l e R s m args below meth c H locs cells slots Q (F0 m pc ls (.long y :: .long x :: rest)) := by
  refine W.lcmp hx hb hd0 ?_
  exact lv_if_ne hx hb hdg ht (fun q => kt (by rw [if_neg (fun g => q ((lg_cmp_eq x y).mpr g))] at h; exact h)) (fun q => kf (by rw [if_pos ((lg_cmp_eq x y).mp q)] at h; exact h))
theorem z_lcmp_lt (hx : p.tables.exec = Jvm.exec) (hb : c.code = cc) {x y : Int64} {off : Int} {tgt : Nat} (hd0 : decode cc pc = .ok (.lcmp, 1)) (hdg : decode cc (pc + 1) = .ok (.ifCond .lt off, 3)) (ht : ((pc + 1 : Nat) : Int) + off = (tgt : Int)) {β : Type} {z X Y : β} (h : (if x < y then X else Y) = z) (kt : X = z → W p l e R s m args below meth c H locs cells slots Q (F0 m tgt ls rest)) (kf : Y = z → W p l e R s m args below meth c H locs cells slots Q (F0 m (pc + 1 + 3) ls rest)) : W p l e R s m args below meth c H locs cells slots Q (F0 m pc ls (.long y :: .long x :: rest)) := by
  refine W.lcmp hx hb hd0 ?_
  exact lv_if_lt hx hb hdg ht (fun q => kt (by rw [if_pos ((lg_cmp_lt x y).mp q)] at h; exact h)) (fun q => kf (by rw [if_neg (fun g => q ((lg_cmp_lt x y).mpr g))] at h; exact h))
theorem z_lcmp_ge (hx : p.tables.exec = Jvm.exec) (hb : c.code = cc) {x y : Int64} {off : Int} {tgt : Nat} (hd0 : decode cc pc = .ok (.lcmp, 1)) (hdg : decode cc (pc + 1) = .ok (.ifCond .ge off, 3)) (ht : ((pc + 1 : Nat) : Int) + off = (tgt : Int)) {β : Type} {z X Y : β} (h : (if y ≤ x then X else Y) = z) (kt : X = z → W p l e R s m args below meth c H locs cells slots Q (F0 m tgt ls rest)) (kf : Y = z → W p l e R s m args below meth c H locs cells slots Q (F0 m (pc + 1 + 3) ls rest)) : W p l e R s m args below meth c H locs cells slots Q (F0 m pc ls (.long y :: .long x :: rest)) := by
  refine W.lcmp hx hb hd0 ?_
  exact lv_if_ge hx hb hdg ht (fun q => kt (by rw [if_pos ((lg_cmp_ge x y).mp q)] at h; exact h)) (fun q => kf (by rw [if_neg (fun g => q ((lg_cmp_ge x y).mpr g))] at h; exact h))
theorem z_lcmp_gt (hx : p.tables.exec = Jvm.exec) (hb : c.code = cc) {x y : Int64} {off : Int} {tgt : Nat} (hd0 : decode cc pc = .ok (.lcmp, 1)) (hdg : decode cc (pc + 1) = .ok (.ifCond .gt off, 3)) (ht : ((pc + 1 : Nat) : Int) + off = (tgt : Int)) {β : Type} {z X Y : β} (h : (if y < x then X else Y) = z) (kt : X = z → W p l e R s m args below meth c H locs cells slots Q (F0 m tgt ls rest)) (kf : Y = z → W p l e R s m args below meth c H locs cells slots Q (F0 m (pc + 1 + 3) ls rest)) : W p l e R s m args below meth c H locs cells slots Q (F0 m pc ls (.long y :: .long x :: rest)) := by
  refine W.lcmp hx hb hd0 ?_
  exact lv_if_gt hx hb hdg ht (fun q => kt (by rw [if_pos ((lg_cmp_gt x y).mp q)] at h; exact h)) (fun q => kf (by rw [if_neg (fun g => q ((lg_cmp_gt x y).mpr g))] at h; exact h))
theorem z_lcmp_le (hx : p.tables.exec = Jvm.exec) (hb : c.code = cc) {x y : Int64} {off : Int} {tgt : Nat} (hd0 : decode cc pc = .ok (.lcmp, 1)) (hdg : decode cc (pc + 1) = .ok (.ifCond .le off, 3)) (ht : ((pc + 1 : Nat) : Int) + off = (tgt : Int)) {β : Type} {z X Y : β} (h : (if x ≤ y then X else Y) = z) (kt : X = z → W p l e R s m args below meth c H locs cells slots Q (F0 m tgt ls rest)) (kf : Y = z → W p l e R s m args below meth c H locs cells slots Q (F0 m (pc + 1 + 3) ls rest)) : W p l e R s m args below meth c H locs cells slots Q (F0 m pc ls (.long y :: .long x :: rest)) := by
  refine W.lcmp hx hb hd0 ?_
  exact lv_if_le hx hb hdg ht (fun q => kt (by rw [if_pos ((lg_cmp_le x y).mp q)] at h; exact h)) (fun q => kf (by rw [if_neg (fun g => q ((lg_cmp_le x y).mpr g))] at h; exact h))
end ZK
