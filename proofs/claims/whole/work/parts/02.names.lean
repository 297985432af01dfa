/-! ===== BEGIN words of one list among another's, by their places ===== -/
theorem goodIn_r {big : List Cond} (ws : List Cond) (ps : List Nat) (hp : ws = ps.filterMap (fun i => big[i]?)) (h : ws.all goodWord = true) : GoodIn big ws := by
  intro w hw
  have h1 := List.all_eq_true.mp h w hw
  rw [hp] at hw
  obtain ⟨i, -, hi⟩ := List.mem_filterMap.mp hw
  have hm : w ∈ big := by first | exact List.mem_of_getElem? hi | exact List.getElem?_mem hi
  exact ⟨hm, good_of_word h1⟩
theorem goodIn_app {big a b : List Cond} (ha : GoodIn big a) (hb : GoodIn big b) : GoodIn big (a ++ b) := fun w h => (List.mem_append.mp h).elim (ha w) (hb w)
theorem goodIn_ca {big a b : List Cond} {c : Cond} (ha : GoodIn big (c :: a)) (hb : GoodIn big b) : GoodIn big (c :: (a ++ b)) := fun w h => (List.mem_cons.mp h).elim (fun e => ha w (List.mem_cons.mpr (Or.inl e))) (fun h => (List.mem_append.mp h).elim (fun h => ha w (List.mem_cons.mpr (Or.inr h))) (hb w))
theorem goodIn_sub {big ws : List Cond} (hm : ∀ w ∈ ws, w ∈ big) (h : ws.all goodWord = true) : GoodIn big ws := fun w hw => ⟨hm w hw, good_of_word (List.all_eq_true.mp h w hw)⟩
/-! ===== END ===== -/

/-! ===== BEGIN new T[n][m]: the outer array a place, the inner ones among the pooled ===== -/
/-- f, but v at every address of l -/
def vr_up {α : Type} (f : Nat → α) (l : List Nat) (v : α) : Nat → α := fun a => if a ∈ l then v else f a
theorem vr_up_in {α : Type} {f : Nat → α} {l : List Nat} {v : α} {a : Nat} (h : a ∈ l) : vr_up f l v a = v := if_pos h
theorem vr_up_ne {α : Type} {f : Nat → α} {l : List Nat} {v : α} {a : Nat} (h : a ∉ l) : vr_up f l v a = f a := if_neg h
theorem vr_rows {L l : List Nat} {f : Nat → va_E} {e : va_E} (h : ∀ a, a ∈ l → a ∉ L) : va_pl L f ++ l.map (fun a => (a, e)) = va_pl (L ++ l) (vr_up f l e) := by
  unfold va_pl
  rw [List.map_append]
  congr 1
  · apply List.map_congr_left
    intro a ha
    rw [vr_up_ne (fun q => h a q ha)]
  · apply List.map_congr_left
    intro a ha
    rw [vr_up_in ha]
theorem vr_lay {X rows : va_W} {x : Nat × va_E} {pl : va_W} {D : va_G} {cl : List vw_C} {H : Heap} (hP : va_P D cl (((X ++ pl) ++ [x]) ++ rows) H) : va_P D cl ((X ++ [x]) ++ (pl ++ rows)) H := by
  rw [List.append_assoc (X ++ pl)] at hP
  have h := va_P.swap hP
  rw [← List.append_assoc X] at h
  have h2 := va_P.swap h
  rw [List.append_assoc (X ++ [x])] at h2
  exact h2
theorem vr_layD {X rows : va_W} {x : Nat × va_E} {pl : va_W} {A : Nat → Prop} (hD : va_D A (((X ++ pl) ++ [x]) ++ rows)) : va_D A ((X ++ [x]) ++ (pl ++ rows)) := by
  rw [List.append_assoc (X ++ pl)] at hD
  have h := va_D.swap hD
  rw [← List.append_assoc X] at h
  have h2 := va_D.swap h
  rw [List.append_assoc (X ++ [x])] at h2
  exact h2
theorem vr_outer (c : ClassId) (N h0 : Nat) : ∀ i : Nat, Jvm.Free.Multi.outerC c N h0 i = arrV c N (fun j => va_rf (if j < i then some (h0 + 1 + j) else none))
  | 0 => by
    show ({ cls := c, slots := Array.replicate N .null, vm := .none } : Cell) = _
    rw [arrV_new]
    refine congrArg (arrV c N) (funext fun j => ?_)
    simp [va_rf]
  | i + 1 => by
    show (Jvm.Free.Multi.outerC c N h0 i).setSlot i (.ref (h0 + 1 + i)) = _
    rw [vr_outer c N h0 i, arrV_store]
    refine congrArg (arrV c N) (funext fun j => ?_)
    by_cases e : j = i
    · subst e
      simp [updV, va_rf]
    · by_cases h : j < i
      · simp [updV, e, h, Nat.lt_succ_of_lt h]
      · simp [updV, e, h, show ¬ j < i + 1 by omega]
def va_AOA (t : FieldType) (U : State) : Prop := (Cond.arrayOver (.array t)).before #[] U = true
theorem va_AOA.of {t : FieldType} {A : Array Value} {U : State} (h : (Cond.arrayOver (.array t)).before A U = true) : va_AOA t U := h
theorem va_AOA.use {t : FieldType} {A : Array Value} {U : State} (h : va_AOA t U) : (Cond.arrayOver (.array t)).before A U = true := h
section VGM
variable {p : Program} {l : Launch} {e : Env} {R : Room} {s : State} {m : MethodId} {args : Array Value} {below : List Frame} {meth : Method} {c : Code} {H : Heap} {locs : List Loc} {cells slots : Nat} {Q : State → Prop}
variable {cc : ByteArray} {pc : Nat} {ls : Array Slot} {rest : List Value} {D : va_G} {cl : List vw_C} {A : Nat → Prop} {a : Nat} {tys : List (ClassId × FieldType)} {ws : va_W} {H0 : Heap}
theorem va_mna {X : va_W} {L : List Nat} {f : Nat → va_E} {cc : ByteArray} (hexec : p.tables.exec = Jvm.exec) (hb : c.code = cc) {own : String} {index : Nat} {ty : FieldType} {cy : ClassId} (hown : s.vm.findClass own = some m.cls) (hclink : (Cond.classLink own index ("[" ++ (FieldType.array ty).toString)).before args s = true) (hover : va_AOA ty s) (harr : (Cond.arrayClass ty).before args s = true) (hcy : s.vm.findClass (FieldType.array ty).toString = some cy)
    (hK : va_K D cl tys s) (hP : va_P D cl (X ++ va_pl L f) H) (hD : va_D A (X ++ va_pl L f)) (hS : va_S A H0 H locs) (hA : ∀ q, H0.size ≤ q → A q) {n k : Int32} {N' K' : Nat} {z : vp_A} (hn : ¬ n < 0) (hk : ¬ k < 0) (hN : n.toNatClampNeg = N') (hM : k.toNatClampNeg = K')
    (hb1 : N' * 4 ≤ 536870912) (hb2 : K' * componentBytes ty ≤ 536870912) (hb3 : K' ≤ 536870912) (hdf : fits ty (defaultValue ty) = true) (hdd : (defaultValue ty).isDefault = true) (hcells : cells + (1 + N') ≤ R.cells) (hslots : slots + (N' + N' * K') ≤ R.slots) (hz : ∀ c : ClassId, Jvm.Free.Multi.innerC c K' (defaultValue ty) = vp_cell c z) (hdg : decode cc pc = .ok (.multianewarray index 2, 4))
    (kk : ∀ (q : Nat) (r : Nat → Nat) (cA : ClassId) (H1 : Heap), (∀ i j : Nat, i < N' → j < N' → r i = r j → i = j) → (∀ i : Nat, i < N' → r i ∉ L) → va_K D cl (tys ++ [(cA, .array ty)]) s →
      va_P D cl ((X ++ [(q, .inl (cA, N', .inr (.inr (.inr (.inr (fun i => if i < N' then some (r i) else none))))))]) ++ va_pl (L ++ (List.range N').map r) (vr_up f ((List.range N').map r) (.inl (cy, z)))) H1 → va_D A ((X ++ [(q, .inl (cA, N', .inr (.inr (.inr (.inr (fun i => if i < N' then some (r i) else none))))))]) ++ va_pl (L ++ (List.range N').map r) (vr_up f ((List.range N').map r) (.inl (cy, z)))) → va_S A H0 H1 locs →
      W p l e R s m args below meth c H1 locs (cells + 1 + N') (slots + N' + N' * K') Q (F0 m (pc + 4) ls (.ref q :: rest))) : W p l e R s m args below meth c H locs cells slots Q (F0 m pc ls (.int k :: .int n :: rest)) := by
  subst hN
  subst hM
  intro T hT Xs
  obtain ⟨vm₁, cA, comp, -, fA, fC, hO, -, X', step⟩ := Xs.multianewarray2F hexec hown hclink (va_AOA.use hover) harr (g := F0 m pc ls (.int k :: .int n :: rest)) rfl (by rw [hb]; exact hdg) rfl hn hk hb1 hb2 hb3 hdf hdd hcells hslots
  have ec : some cy = some comp := hcy.symm.trans fC
  cases ec
  generalize hF : Jvm.Free.Multi.fill (T.setVm vm₁) cA cy n.toNatClampNeg k.toNatClampNeg (defaultValue ty) n.toNatClampNeg = F at X' step
  have hTh : (T.setVm vm₁).heap = H := hT
  obtain ⟨f1, f2, -, -⟩ := Jvm.Free.Multi.fill_facts (T.setVm vm₁) cA cy n.toNatClampNeg k.toNatClampNeg (defaultValue ty) n.toNatClampNeg
  rw [hF, hTh] at f1 f2
  have hold : ∀ x : Nat, x < H.size → F.heap[x]? = H[x]? := fun x hx => by
    have := Jvm.Free.Multi.fill_old (T.setVm vm₁) cA cy n.toNatClampNeg k.toNatClampNeg (defaultValue ty) (a := x) (by rw [hTh]; exact hx) n.toNatClampNeg
    rw [hF, hTh] at this
    exact this
  have hrow : ∀ j : Nat, j < n.toNatClampNeg → F.heap[H.size + 1 + j]? = some (vp_cell cy z) := fun j hj => by
    have := Jvm.Free.Multi.fill_inner (T.setVm vm₁) cA cy n.toNatClampNeg k.toNatClampNeg (defaultValue ty) n.toNatClampNeg j hj
    rw [hF, hTh, hz] at this
    exact this
  have hout : Jvm.Free.Multi.outerC cA n.toNatClampNeg H.size n.toNatClampNeg = vp_cell cA (n.toNatClampNeg, .inr (.inr (.inr (.inr (fun i => if i < n.toNatClampNeg then some (H.size + 1 + i) else none))))) := by
    rw [vp_cell_q]
    exact vr_outer cA n.toNatClampNeg H.size n.toNatClampNeg
  rw [hout] at f2
  have hlt : ∀ a, a ∈ L → a < H.size := fun a ha => by
    obtain ⟨k9, hk9⟩ := va_pl_get (X := X) (f := f) ha
    exact (hP k9 _ hk9).lt
  have hnl : ∀ i : Nat, i < n.toNatClampNeg → H.size + 1 + i ∉ L := fun i _ h => by
    have := hlt _ h
    omega
  have hnm : ∀ a, a ∈ (List.range n.toNatClampNeg).map (fun i => H.size + 1 + i) → a ∉ L := fun a ha h => by
    obtain ⟨i, -, rfl⟩ := List.mem_map.mp ha
    have := hlt _ h
    omega
  have hP0 : va_P D cl (X ++ va_pl L f) F.heap := hP.kept (fun k9 x hx => hold x.1 ((hP k9 x hx).lt))
  have hP1 : va_P D cl ((X ++ va_pl L f) ++ [(H.size, .inl (cA, n.toNatClampNeg, .inr (.inr (.inr (.inr (fun i => if i < n.toNatClampNeg then some (H.size + 1 + i) else none))))))]) F.heap := hP0.app (fun k9 x hx => by
    have h0 : k9 < 1 := (List.getElem?_eq_some_iff.mp hx).1
    rw [show k9 = 0 by omega] at hx
    cases hx
    exact f2)
  have hP2 : va_P D cl (((X ++ va_pl L f) ++ [(H.size, .inl (cA, n.toNatClampNeg, .inr (.inr (.inr (.inr (fun i => if i < n.toNatClampNeg then some (H.size + 1 + i) else none))))))]) ++ ((List.range n.toNatClampNeg).map (fun i => H.size + 1 + i)).map (fun a => (a, .inl (cy, z)))) F.heap := hP1.app (fun k9 x hx => by
    obtain ⟨a, ha, rfl⟩ := List.mem_map.mp (List.mem_of_getElem? hx)
    obtain ⟨i, hi, rfl⟩ := List.mem_map.mp ha
    exact hrow i (List.mem_range.mp hi))
  have hD2 : va_D A (((X ++ va_pl L f) ++ [(H.size, .inl (cA, n.toNatClampNeg, .inr (.inr (.inr (.inr (fun i => if i < n.toNatClampNeg then some (H.size + 1 + i) else none))))))]) ++ ((List.range n.toNatClampNeg).map (fun i => H.size + 1 + i)).map (fun a => (a, .inl (cy, z)))) := by
    have hD1 := hD.push (e := .inl (cA, n.toNatClampNeg, .inr (.inr (.inr (.inr (fun i => if i < n.toNatClampNeg then some (H.size + 1 + i) else none)))))) hP rfl (hA _ hS.1)
    generalize hW1 : (X ++ va_pl L f) ++ [(H.size, .inl (cA, n.toNatClampNeg, .inr (.inr (.inr (.inr (fun i => if i < n.toNatClampNeg then some (H.size + 1 + i) else none))))))] = W1 at hD1 hP1 ⊢
    have hle : ∀ (k9 : Nat) (x : Nat × va_E), W1[k9]? = some x → x.1 ≤ H.size := fun k9 x hx => by
      rw [← hW1] at hx
      by_cases hl : k9 < (X ++ va_pl L f).length
      · rw [List.getElem?_append_left hl] at hx
        exact Nat.le_of_lt ((hP k9 x hx).lt)
      · rw [List.getElem?_append_right (by omega)] at hx
        have h0 : k9 - (X ++ va_pl L f).length < 1 := (List.getElem?_eq_some_iff.mp hx).1
        rw [show k9 - (X ++ va_pl L f).length = 0 by omega] at hx
        cases hx
        exact Nat.le_refl _
    have hr : ∀ (k9 : Nat) (x : Nat × va_E), (((List.range n.toNatClampNeg).map (fun i => H.size + 1 + i)).map (fun a => ((a, .inl (cy, z)) : Nat × va_E)))[k9]? = some x → x.1 = H.size + 1 + k9 := fun k9 x hx => by
      rw [List.getElem?_map, List.getElem?_map] at hx
      by_cases h9 : k9 < n.toNatClampNeg
      · rw [List.getElem?_range h9] at hx
        cases hx
        rfl
      · have hn0 : (List.range n.toNatClampNeg)[k9]? = none := List.getElem?_eq_none (by rw [List.length_range]; omega)
        rw [hn0] at hx
        cases hx
    refine ⟨fun i j x y hi hj hxy => ?_, fun k9 x hx => ?_⟩
    · by_cases h1 : i < W1.length <;> by_cases h2 : j < W1.length
      · rw [List.getElem?_append_left h1] at hi
        rw [List.getElem?_append_left h2] at hj
        exact hD1.1 i j x y hi hj hxy
      · rw [List.getElem?_append_left h1] at hi
        rw [List.getElem?_append_right (by omega)] at hj
        have := hle _ _ hi
        have := hr _ _ hj
        omega
      · rw [List.getElem?_append_right (by omega)] at hi
        rw [List.getElem?_append_left h2] at hj
        have := hle _ _ hj
        have := hr _ _ hi
        omega
      · rw [List.getElem?_append_right (by omega)] at hi hj
        have := hr _ _ hi
        have := hr _ _ hj
        omega
    · by_cases h1 : k9 < W1.length
      · rw [List.getElem?_append_left h1] at hx
        exact hD1.2 k9 x hx
      · rw [List.getElem?_append_right (by omega)] at hx
        have := hr _ _ hx
        exact hA _ (by have := hS.1; omega)
  have hAr : ArrOfT s cA (.array ty) := fun N9 z9 => by
    obtain ⟨-, k9, hk9, cm9, hkk9⟩ := (hO 0 0 0).1
    exact ⟨(fun q hq => by cases hq), k9, hk9, cm9, hkk9⟩
  have hK2 : va_K D cl (tys ++ [(cA, .array ty)]) s := ⟨hK.1, fun k9 x hx => by
    by_cases hl : k9 < tys.length
    · rw [List.getElem?_append_left hl] at hx
      exact hK.2 k9 x hx
    · rw [List.getElem?_append_right (by omega)] at hx
      have h0 : k9 - tys.length < 1 := (List.getElem?_eq_some_iff.mp hx).1
      rw [show k9 - tys.length = 0 by omega] at hx
      cases hx
      exact ⟨hAr, fA⟩⟩
  obtain ⟨t, a1, b1⟩ := kk H.size (fun i => H.size + 1 + i) cA F.heap (fun i j _ _ h => by have h9 : H.size + 1 + i = H.size + 1 + j := h; omega) hnl hK2 (by rw [← vr_rows hnm]; exact vr_lay hP2) (by rw [← vr_rows hnm]; exact vr_layD hD2) ⟨by rw [f1]; have := hS.1; omega, fun x h1 h2 => (hold x (Nat.lt_of_lt_of_le h1 hS.1)).trans (hS.2.1 x h1 h2), hS.2.2⟩ F rfl X'
  refine ⟨t, step t ?_, b1⟩
  have e : T.heap.size = H.size := by rw [hT]
  rw [e]
  exact a1
end VGM
/-! ===== END ===== -/

/-! ===== BEGIN printed: names, fields, word lists, decode rows ===== -/
def RX0 : String := "LandGoods$Pair"
def TX0 : u_T := fun k => match k with
  | 0 => ("LandGoods$Pair", "goods", "I", false)
  | 1 => ("LandGoods$Pair", "shares", "[I", true)
  | 2 => ("LandGoods$Pair", "firstHours", "[J", true)
  | 3 => ("LandGoods$Pair", "secondHours", "[J", true)
  | 4 => ("LandGoods$Pair", "order", "[I", true)
  | 5 => ("LandGoods$Pair", "firstHands", "J", false)
  | 6 => ("LandGoods$Pair", "secondHands", "J", false)
  | 7 => ("LandGoods$Pair", "firstWage", "J", false)
  | _ => ("LandGoods$Pair", "secondWage", "J", false)
def tyX0 : Nat → FieldType := fun k => match k with
  | 0 => .int
  | 1 => .array .int
  | 2 => .array .long
  | 3 => .array .long
  | 4 => .array .int
  | 5 => .long
  | 6 => .long
  | 7 => .long
  | _ => .long
abbrev wsX00 : List Cond := u_ws RX0 TX0 9
theorem nmX0 : ∀ a, a < 9 → ∀ b, b < 9 → a ≠ b → (TX0 a).2.1 ≠ (TX0 b).2.1 := by decide +kernel
theorem tyX0_ok : ∀ k, k < 9 → parseFieldDescriptor (TX0 k).2.2.1 = some (tyX0 k) := by decide +kernel
abbrev cX0_init : ByteArray := prog_2_method_1_code
def yX0_init : MethodName := ⟨RX0, "<init>", "()V"⟩
abbrev cX0_layTwo : ByteArray := prog_2_method_2_code
def yX0_layTwo : MethodName := ⟨RX0, "layTwo", "(LLandGoods$World;II)V"⟩
abbrev cX0_layTied : ByteArray := prog_2_method_3_code
def yX0_layTied : MethodName := ⟨RX0, "layTied", "(LLandGoods$World;IJIJI)V"⟩
abbrev cX0_sort : ByteArray := prog_2_method_4_code
def yX0_sort : MethodName := ⟨RX0, "sort", "()V"⟩
abbrev cX0_settleTwo : ByteArray := prog_2_method_5_code
def yX0_settleTwo : MethodName := ⟨RX0, "settleTwo", "()V"⟩
abbrev cX0_cut : ByteArray := prog_2_method_6_code
def yX0_cut : MethodName := ⟨RX0, "cut", "()I"⟩
abbrev cX0_allShares : ByteArray := prog_2_method_7_code
def yX0_allShares : MethodName := ⟨RX0, "allShares", "()J"⟩
def RX1 : String := "LandGoods$Rest"
def TX1 : u_T := fun k => match k with
  | 0 => ("LandGoods$Rest", "couple", "LLandGoods$Pair;", true)
  | 1 => ("LandGoods$Rest", "tied", "LLandGoods$Pair;", true)
  | _ => ("LandGoods$Rest", "wins", "[[I", true)
def tyX1 : Nat → FieldType := fun k => match k with
  | 0 => .object "LandGoods$Pair"
  | 1 => .object "LandGoods$Pair"
  | _ => .array (.array .int)
abbrev wsX10 : List Cond := u_ws RX1 TX1 3
theorem nmX1 : ∀ a, a < 3 → ∀ b, b < 3 → a ≠ b → (TX1 a).2.1 ≠ (TX1 b).2.1 := by decide +kernel
theorem tyX1_ok : ∀ k, k < 3 → parseFieldDescriptor (TX1 k).2.2.1 = some (tyX1 k) := by decide +kernel
abbrev cX1_init : ByteArray := prog_3_method_1_code
def yX1_init : MethodName := ⟨RX1, "<init>", "()V"⟩
abbrev cX1_settle : ByteArray := prog_3_method_2_code
def yX1_settle : MethodName := ⟨RX1, "settle", "(LLandGoods$World;)V"⟩
abbrev cX1_clearWins : ByteArray := prog_3_method_3_code
def yX1_clearWins : MethodName := ⟨RX1, "clearWins", "()V"⟩
abbrev cX1_findTied : ByteArray := prog_3_method_4_code
def yX1_findTied : MethodName := ⟨RX1, "findTied", "(LLandGoods$World;II)Z"⟩
abbrev cX1_tie : ByteArray := prog_3_method_5_code
def yX1_tie : MethodName := ⟨RX1, "tie", "(LLandGoods$World;III)V"⟩
abbrev cX1_settleApart : ByteArray := prog_3_method_6_code
def yX1_settleApart : MethodName := ⟨RX1, "settleApart", "(LLandGoods$World;)V"⟩
abbrev cX1_shorten : ByteArray := prog_3_method_7_code
def yX1_shorten : MethodName := ⟨RX1, "shorten", "(LLandGoods$World;)V"⟩
def RX2 : String := "LandGoods$Rows"
def TX2 : u_T := fun k => match k with
  | 0 => ("LandGoods$Rows", "items", "[[I", true)
  | 1 => ("LandGoods$Rows", "lanes", "[I", true)
  | _ => ("LandGoods$Rows", "sizes", "[I", true)
def tyX2 : Nat → FieldType := fun k => match k with
  | 0 => .array (.array .int)
  | 1 => .array .int
  | _ => .array .int
abbrev wsX20 : List Cond := u_ws RX2 TX2 3
theorem nmX2 : ∀ a, a < 3 → ∀ b, b < 3 → a ≠ b → (TX2 a).2.1 ≠ (TX2 b).2.1 := by decide +kernel
theorem tyX2_ok : ∀ k, k < 3 → parseFieldDescriptor (TX2 k).2.2.1 = some (tyX2 k) := by decide +kernel
abbrev cX2_init : ByteArray := prog_4_method_1_code
def yX2_init : MethodName := ⟨RX2, "<init>", "()V"⟩
abbrev cX2_isRow : ByteArray := prog_4_method_2_code
def yX2_isRow : MethodName := ⟨RX2, "isRow", "(I)Z"⟩
abbrev cX2_isLane : ByteArray := prog_4_method_3_code
def yX2_isLane : MethodName := ⟨RX2, "isLane", "(I)Z"⟩
abbrev cX2_isMissing : ByteArray := prog_4_method_4_code
def yX2_isMissing : MethodName := ⟨RX2, "isMissing", "(I)Z"⟩
abbrev cX2_sameLane : ByteArray := prog_4_method_5_code
def yX2_sameLane : MethodName := ⟨RX2, "sameLane", "(II)Z"⟩
abbrev cX2_has : ByteArray := prog_4_method_6_code
def yX2_has : MethodName := ⟨RX2, "has", "(III)Z"⟩
abbrev cX2_item : ByteArray := prog_4_method_7_code
def yX2_item : MethodName := ⟨RX2, "item", "(II)I"⟩
abbrev cX2_make : ByteArray := prog_4_method_8_code
def yX2_make : MethodName := ⟨RX2, "make", "(III)V"⟩
abbrev cX2_put : ByteArray := prog_4_method_9_code
def yX2_put : MethodName := ⟨RX2, "put", "(III)I"⟩
abbrev cX2_carry : ByteArray := prog_4_method_10_code
def yX2_carry : MethodName := ⟨RX2, "carry", "(IIIII)V"⟩
abbrev cX2_remove : ByteArray := prog_4_method_11_code
def yX2_remove : MethodName := ⟨RX2, "remove", "(I)I"⟩
abbrev cX2_present : ByteArray := prog_4_method_12_code
def yX2_present : MethodName := ⟨RX2, "present", "()I"⟩
def RX3 : String := "LandGoods$Tape"
def TX3 : u_T := fun k => match k with
  | 0 => ("LandGoods$Tape", "bytes", "[B", true)
  | 1 => ("LandGoods$Tape", "length", "I", false)
  | 2 => ("LandGoods$Tape", "faultNumber", "I", false)
  | 3 => ("LandGoods$Tape", "faultPlace", "I", false)
  | 4 => ("LandGoods$Tape", "start", "I", false)
  | 5 => ("LandGoods$Tape", "behind", "I", false)
  | 6 => ("LandGoods$Tape", "token", "I", false)
  | _ => ("LandGoods$Tape", "value", "I", false)
def tyX3 : Nat → FieldType := fun k => match k with
  | 0 => .array .byte
  | 1 => .int
  | 2 => .int
  | 3 => .int
  | 4 => .int
  | 5 => .int
  | 6 => .int
  | _ => .int
abbrev wsX30 : List Cond := u_ws RX3 TX3 8
theorem nmX3 : ∀ a, a < 8 → ∀ b, b < 8 → a ≠ b → (TX3 a).2.1 ≠ (TX3 b).2.1 := by decide +kernel
theorem tyX3_ok : ∀ k, k < 8 → parseFieldDescriptor (TX3 k).2.2.1 = some (tyX3 k) := by decide +kernel
abbrev cX3_init : ByteArray := prog_5_method_1_code
def yX3_init : MethodName := ⟨RX3, "<init>", "()V"⟩
abbrev cX3_hasRoom : ByteArray := prog_5_method_2_code
def yX3_hasRoom : MethodName := ⟨RX3, "hasRoom", "(I)Z"⟩
abbrev cX3_append : ByteArray := prog_5_method_3_code
def yX3_append : MethodName := ⟨RX3, "append", "(JI)I"⟩
abbrev cX3_empty : ByteArray := prog_5_method_4_code
def yX3_empty : MethodName := ⟨RX3, "empty", "()V"⟩
abbrev cX3_readInto : ByteArray := prog_5_method_5_code
def yX3_readInto : MethodName := ⟨RX3, "readInto", "(LLandGoods$World;)Z"⟩
abbrev cX3_readGood : ByteArray := prog_5_method_6_code
def yX3_readGood : MethodName := ⟨RX3, "readGood", "(LLandGoods$World;)Z"⟩
abbrev cX3_readLand : ByteArray := prog_5_method_7_code
def yX3_readLand : MethodName := ⟨RX3, "readLand", "(LLandGoods$World;)Z"⟩
abbrev cX3_passSemicolon : ByteArray := prog_5_method_8_code
def yX3_passSemicolon : MethodName := ⟨RX3, "passSemicolon", "()Z"⟩
abbrev cX3_isNumberUpTo : ByteArray := prog_5_method_9_code
def yX3_isNumberUpTo : MethodName := ⟨RX3, "isNumberUpTo", "(I)Z"⟩
abbrev cX3_blame : ByteArray := prog_5_method_10_code
def yX3_blame : MethodName := ⟨RX3, "blame", "(I)Z"⟩
abbrev cX3_step : ByteArray := prog_5_method_11_code
def yX3_step : MethodName := ⟨RX3, "step", "()V"⟩
abbrev cX3_takeName : ByteArray := prog_5_method_12_code
def yX3_takeName : MethodName := ⟨RX3, "takeName", "()V"⟩
abbrev cX3_isWord : ByteArray := prog_5_method_13_code
def yX3_isWord : MethodName := ⟨RX3, "isWord", "(Ljava/lang/String;)Z"⟩
abbrev cX3_takeNumber : ByteArray := prog_5_method_14_code
def yX3_takeNumber : MethodName := ⟨RX3, "takeNumber", "()V"⟩
abbrev cX3_isLetter : ByteArray := prog_5_method_15_code
def yX3_isLetter : MethodName := ⟨RX3, "isLetter", "(B)Z"⟩
abbrev cX3_isFigure : ByteArray := prog_5_method_16_code
def yX3_isFigure : MethodName := ⟨RX3, "isFigure", "(B)Z"⟩
def RX4 : String := "LandGoods$Trace"
def TX4 : u_T := fun k => match k with
  | 0 => ("LandGoods$Trace", "numbers", "[I", true)
  | _ => ("LandGoods$Trace", "length", "I", false)
def tyX4 : Nat → FieldType := fun k => match k with
  | 0 => .array .int
  | _ => .int
abbrev wsX40 : List Cond := u_ws RX4 TX4 2
theorem nmX4 : ∀ a, a < 2 → ∀ b, b < 2 → a ≠ b → (TX4 a).2.1 ≠ (TX4 b).2.1 := by decide +kernel
theorem tyX4_ok : ∀ k, k < 2 → parseFieldDescriptor (TX4 k).2.2.1 = some (tyX4 k) := by decide +kernel
abbrev cX4_init : ByteArray := prog_6_method_1_code
def yX4_init : MethodName := ⟨RX4, "<init>", "()V"⟩
abbrev cX4_empty : ByteArray := prog_6_method_2_code
def yX4_empty : MethodName := ⟨RX4, "empty", "()V"⟩
abbrev cX4_add : ByteArray := prog_6_method_3_code
def yX4_add : MethodName := ⟨RX4, "add", "(I)V"⟩
abbrev cX4_at : ByteArray := prog_6_method_4_code
def yX4_at : MethodName := ⟨RX4, "at", "(I)I"⟩
def RX5 : String := "LandGoods$World"
def TX5 : u_T := fun k => match k with
  | 0 => ("LandGoods$World", "lands", "I", false)
  | 1 => ("LandGoods$World", "goods", "I", false)
  | 2 => ("LandGoods$World", "shares", "[I", true)
  | 3 => ("LandGoods$World", "hands", "[I", true)
  | 4 => ("LandGoods$World", "hours", "[[I", true)
  | 5 => ("LandGoods$World", "wages", "[J", true)
  | _ => ("LandGoods$World", "makers", "[I", true)
def tyX5 : Nat → FieldType := fun k => match k with
  | 0 => .int
  | 1 => .int
  | 2 => .array .int
  | 3 => .array .int
  | 4 => .array (.array .int)
  | 5 => .array .long
  | _ => .array .int
abbrev wsX50 : List Cond := u_ws RX5 TX5 7
theorem nmX5 : ∀ a, a < 7 → ∀ b, b < 7 → a ≠ b → (TX5 a).2.1 ≠ (TX5 b).2.1 := by decide +kernel
theorem tyX5_ok : ∀ k, k < 7 → parseFieldDescriptor (TX5 k).2.2.1 = some (tyX5 k) := by decide +kernel
abbrev cX5_init : ByteArray := prog_7_method_1_code
def yX5_init : MethodName := ⟨RX5, "<init>", "()V"⟩
abbrev cX5_take : ByteArray := prog_7_method_2_code
def yX5_take : MethodName := ⟨RX5, "take", "(LLandGoods$World;)V"⟩
abbrev cX5_isThere : ByteArray := prog_7_method_3_code
def yX5_isThere : MethodName := ⟨RX5, "isThere", "()Z"⟩
abbrev cX5_isLand : ByteArray := prog_7_method_4_code
def yX5_isLand : MethodName := ⟨RX5, "isLand", "(I)Z"⟩
abbrev cX5_isGood : ByteArray := prog_7_method_5_code
def yX5_isGood : MethodName := ⟨RX5, "isGood", "(I)Z"⟩
abbrev cX5_allLands : ByteArray := prog_7_method_6_code
def yX5_allLands : MethodName := ⟨RX5, "allLands", "()I"⟩
abbrev cX5_allHands : ByteArray := prog_7_method_7_code
def yX5_allHands : MethodName := ⟨RX5, "allHands", "()I"⟩
abbrev cX5_allShares : ByteArray := prog_7_method_8_code
def yX5_allShares : MethodName := ⟨RX5, "allShares", "()I"⟩
abbrev cX5_cost : ByteArray := prog_7_method_9_code
def yX5_cost : MethodName := ⟨RX5, "cost", "([JII)J"⟩
abbrev cX5_leastCost : ByteArray := prog_7_method_10_code
def yX5_leastCost : MethodName := ⟨RX5, "leastCost", "([JI)J"⟩
abbrev cX5_makersBy : ByteArray := prog_7_method_11_code
def yX5_makersBy : MethodName := ⟨RX5, "makersBy", "([JI)I"⟩
abbrev cX5_firstMaker : ByteArray := prog_7_method_12_code
def yX5_firstMaker : MethodName := ⟨RX5, "firstMaker", "(I)I"⟩
abbrev cX5_idleBy : ByteArray := prog_7_method_13_code
def yX5_idleBy : MethodName := ⟨RX5, "idleBy", "([J)I"⟩
abbrev cX5_incomeOf : ByteArray := prog_7_method_14_code
def yX5_incomeOf : MethodName := ⟨RX5, "incomeOf", "([JI)J"⟩
abbrev cX5_sharesFor : ByteArray := prog_7_method_15_code
def yX5_sharesFor : MethodName := ⟨RX5, "sharesFor", "(I)J"⟩
def RX6 : String := "LandGoods"
def TX6 : u_T := fun k => match k with
  | 0 => ("LandGoods", "rows", "LLandGoods$Rows;", true)
  | 1 => ("LandGoods", "tape", "LLandGoods$Tape;", true)
  | 2 => ("LandGoods", "bodies", "LLandGoods$Trace;", true)
  | 3 => ("LandGoods", "rest", "LLandGoods$Rest;", true)
  | 4 => ("LandGoods", "pair", "LLandGoods$Pair;", true)
  | 5 => ("LandGoods", "now", "LLandGoods$World;", true)
  | 6 => ("LandGoods", "ahead", "LLandGoods$World;", true)
  | 7 => ("LandGoods", "trial", "LLandGoods$World;", true)
  | 8 => ("LandGoods", "byHand", "[J", true)
  | 9 => ("LandGoods", "spread", "[I", true)
  | 10 => ("LandGoods", "hasAhead", "Z", false)
  | _ => ("LandGoods", "latestFinding", "I", false)
def tyX6 : Nat → FieldType := fun k => match k with
  | 0 => .object "LandGoods$Rows"
  | 1 => .object "LandGoods$Tape"
  | 2 => .object "LandGoods$Trace"
  | 3 => .object "LandGoods$Rest"
  | 4 => .object "LandGoods$Pair"
  | 5 => .object "LandGoods$World"
  | 6 => .object "LandGoods$World"
  | 7 => .object "LandGoods$World"
  | 8 => .array .long
  | 9 => .array .int
  | 10 => .boolean
  | _ => .int
abbrev wsX60 : List Cond := u_ws RX6 TX6 12
theorem nmX6 : ∀ a, a < 12 → ∀ b, b < 12 → a ≠ b → (TX6 a).2.1 ≠ (TX6 b).2.1 := by decide +kernel
theorem tyX6_ok : ∀ k, k < 12 → parseFieldDescriptor (TX6 k).2.2.1 = some (tyX6 k) := by decide +kernel
abbrev cX6_init : ByteArray := prog_1_method_1_code
def yX6_init : MethodName := ⟨RX6, "<init>", "()V"⟩
abbrev cX6_row : ByteArray := prog_1_method_2_code
def yX6_row : MethodName := ⟨RX6, "row", "(III)J"⟩
abbrev cX6_set : ByteArray := prog_1_method_3_code
def yX6_set : MethodName := ⟨RX6, "set", "(III)J"⟩
abbrev cX6_copy : ByteArray := prog_1_method_4_code
def yX6_copy : MethodName := ⟨RX6, "copy", "(IIIII)J"⟩
abbrev cX6_drop : ByteArray := prog_1_method_5_code
def yX6_drop : MethodName := ⟨RX6, "drop", "(I)J"⟩
abbrev cX6_feed : ByteArray := prog_1_method_6_code
def yX6_feed : MethodName := ⟨RX6, "feed", "(JI)J"⟩
abbrev cX6_world : ByteArray := prog_1_method_7_code
def yX6_world : MethodName := ⟨RX6, "world", "()J"⟩
abbrev cX6_fault : ByteArray := prog_1_method_8_code
def yX6_fault : MethodName := ⟨RX6, "fault", "()I"⟩
abbrev cX6_told : ByteArray := prog_1_method_9_code
def yX6_told : MethodName := ⟨RX6, "told", "(III)J"⟩
abbrev cX6_wage : ByteArray := prog_1_method_10_code
def yX6_wage : MethodName := ⟨RX6, "wage", "(II)J"⟩
abbrev cX6_price : ByteArray := prog_1_method_11_code
def yX6_price : MethodName := ⟨RX6, "price", "(II)J"⟩
abbrev cX6_gain : ByteArray := prog_1_method_12_code
def yX6_gain : MethodName := ⟨RX6, "gain", "(III)J"⟩
abbrev cX6_judge : ByteArray := prog_1_method_13_code
def yX6_judge : MethodName := ⟨RX6, "judge", "(II)J"⟩
abbrev cX6_chain : ByteArray := prog_1_method_14_code
def yX6_chain : MethodName := ⟨RX6, "chain", "(III)J"⟩
abbrev cX6_more : ByteArray := prog_1_method_15_code
def yX6_more : MethodName := ⟨RX6, "more", "(II)J"⟩
abbrev cX6_stays : ByteArray := prog_1_method_16_code
def yX6_stays : MethodName := ⟨RX6, "stays", "(III)J"⟩
abbrev cX6_learn : ByteArray := prog_1_method_17_code
def yX6_learn : MethodName := ⟨RX6, "learn", "(III)J"⟩
abbrev cX6_on : ByteArray := prog_1_method_18_code
def yX6_on : MethodName := ⟨RX6, "on", "(I)J"⟩
abbrev cX6_edge : ByteArray := prog_1_method_19_code
def yX6_edge : MethodName := ⟨RX6, "edge", "(II)J"⟩
abbrev cX6_move : ByteArray := prog_1_method_20_code
def yX6_move : MethodName := ⟨RX6, "move", "(I)J"⟩
abbrev cX6_kind : ByteArray := prog_1_method_21_code
def yX6_kind : MethodName := ⟨RX6, "kind", "(I)J"⟩
abbrev cX6_as : ByteArray := prog_1_method_22_code
def yX6_as : MethodName := ⟨RX6, "as", "(II)J"⟩
abbrev cX6_ask : ByteArray := prog_1_method_23_code
def yX6_ask : MethodName := ⟨RX6, "ask", "(II)J"⟩
abbrev cX6_trace : ByteArray := prog_1_method_24_code
def yX6_trace : MethodName := ⟨RX6, "trace", "(I)I"⟩
abbrev cX6_count : ByteArray := prog_1_method_25_code
def yX6_count : MethodName := ⟨RX6, "count", "(I)J"⟩
abbrev cX6_status : ByteArray := prog_1_method_26_code
def yX6_status : MethodName := ⟨RX6, "status", "()I"⟩
abbrev cX6_found : ByteArray := prog_1_method_27_code
def yX6_found : MethodName := ⟨RX6, "found", "(I)J"⟩
abbrev cX6_fine : ByteArray := prog_1_method_28_code
def yX6_fine : MethodName := ⟨RX6, "fine", "(J)J"⟩
abbrev cX6_findingAt : ByteArray := prog_1_method_29_code
def yX6_findingAt : MethodName := ⟨RX6, "findingAt", "(III)I"⟩
abbrev cX6_keepAhead : ByteArray := prog_1_method_30_code
def yX6_keepAhead : MethodName := ⟨RX6, "keepAhead", "()V"⟩
abbrev cX6_part : ByteArray := prog_1_method_31_code
def yX6_part : MethodName := ⟨RX6, "part", "(JJI)J"⟩
abbrev cX6_commonDivisor : ByteArray := prog_1_method_32_code
def yX6_commonDivisor : MethodName := ⟨RX6, "commonDivisor", "(JJ)J"⟩
abbrev cX6_leastRing : ByteArray := prog_1_method_33_code
def yX6_leastRing : MethodName := ⟨RX6, "leastRing", "()J"⟩
abbrev cX6_makesMore : ByteArray := prog_1_method_34_code
def yX6_makesMore : MethodName := ⟨RX6, "makesMore", "(I)Z"⟩
abbrev cX6_landOfRing : ByteArray := prog_1_method_35_code
def yX6_landOfRing : MethodName := ⟨RX6, "landOfRing", "(II)I"⟩
abbrev cX6_bestGift : ByteArray := prog_1_method_36_code
def yX6_bestGift : MethodName := ⟨RX6, "bestGift", "(II)I"⟩
abbrev cX6_makersChange : ByteArray := prog_1_method_37_code
def yX6_makersChange : MethodName := ⟨RX6, "makersChange", "(III)Z"⟩
abbrev cX6_oneGoes : ByteArray := prog_1_method_38_code
def yX6_oneGoes : MethodName := ⟨RX6, "oneGoes", "()Z"⟩
abbrev cX6_kindOf : ByteArray := prog_1_method_39_code
def yX6_kindOf : MethodName := ⟨RX6, "kindOf", "(I)I"⟩
abbrev cX6_isOfKind : ByteArray := prog_1_method_40_code
def yX6_isOfKind : MethodName := ⟨RX6, "isOfKind", "(II)Z"⟩
abbrev cX6_commonGoods : ByteArray := prog_1_method_41_code
def yX6_commonGoods : MethodName := ⟨RX6, "commonGoods", "()J"⟩
abbrev cX6_sizeOf : ByteArray := prog_1_method_42_code
def yX6_sizeOf : MethodName := ⟨RX6, "sizeOf", "(II)J"⟩
abbrev cX6_markOf : ByteArray := prog_1_method_43_code
def yX6_markOf : MethodName := ⟨RX6, "markOf", "(II)J"⟩
abbrev cX6_body : ByteArray := prog_1_method_44_code
def yX6_body : MethodName := ⟨RX6, "body", "(III)J"⟩
def RX7 : String := "LandGoodsModel"
def TX7 : u_T := fun k => match k with
  | 0 => ("LandGoodsModel", "thrown", "I", false)
  | 1 => ("LandGoodsModel", "status", "I", false)
  | 2 => ("LandGoodsModel", "lane", "[I", true)
  | 3 => ("LandGoodsModel", "many", "[I", true)
  | 4 => ("LandGoodsModel", "item", "[I", true)
  | 5 => ("LandGoodsModel", "lands", "I", false)
  | 6 => ("LandGoodsModel", "goods", "I", false)
  | 7 => ("LandGoodsModel", "share", "[I", true)
  | 8 => ("LandGoodsModel", "hands", "[I", true)
  | 9 => ("LandGoodsModel", "hours", "[I", true)
  | 10 => ("LandGoodsModel", "newLands", "I", false)
  | 11 => ("LandGoodsModel", "newGoods", "I", false)
  | 12 => ("LandGoodsModel", "newShare", "[I", true)
  | 13 => ("LandGoodsModel", "newHands", "[I", true)
  | 14 => ("LandGoodsModel", "newHours", "[I", true)
  | 15 => ("LandGoodsModel", "tape", "[I", true)
  | 16 => ("LandGoodsModel", "taped", "I", false)
  | 17 => ("LandGoodsModel", "latest", "I", false)
  | 18 => ("LandGoodsModel", "length", "I", false)
  | 19 => ("LandGoodsModel", "cursor", "I", false)
  | 20 => ("LandGoodsModel", "token", "I", false)
  | 21 => ("LandGoodsModel", "from", "I", false)
  | 22 => ("LandGoodsModel", "till", "I", false)
  | 23 => ("LandGoodsModel", "fault", "I", false)
  | 24 => ("LandGoodsModel", "faultAt", "I", false)
  | 25 => ("LandGoodsModel", "wasChanged", "Z", false)
  | 26 => ("LandGoodsModel", "wages", "[J", true)
  | 27 => ("LandGoodsModel", "makes", "[I", true)
  | 28 => ("LandGoodsModel", "row", "[J", true)
  | 29 => ("LandGoodsModel", "isKnown", "Z", false)
  | 30 => ("LandGoodsModel", "known", "[J", true)
  | 31 => ("LandGoodsModel", "ringAbove", "J", false)
  | 32 => ("LandGoodsModel", "ringBelow", "J", false)
  | 33 => ("LandGoodsModel", "wasAbove", "[J", true)
  | 34 => ("LandGoodsModel", "wasBelow", "[J", true)
  | 35 => ("LandGoodsModel", "trace", "[I", true)
  | _ => ("LandGoodsModel", "traced", "I", false)
def tyX7 : Nat → FieldType := fun k => match k with
  | 0 => .int
  | 1 => .int
  | 2 => .array .int
  | 3 => .array .int
  | 4 => .array .int
  | 5 => .int
  | 6 => .int
  | 7 => .array .int
  | 8 => .array .int
  | 9 => .array .int
  | 10 => .int
  | 11 => .int
  | 12 => .array .int
  | 13 => .array .int
  | 14 => .array .int
  | 15 => .array .int
  | 16 => .int
  | 17 => .int
  | 18 => .int
  | 19 => .int
  | 20 => .int
  | 21 => .int
  | 22 => .int
  | 23 => .int
  | 24 => .int
  | 25 => .boolean
  | 26 => .array .long
  | 27 => .array .int
  | 28 => .array .long
  | 29 => .boolean
  | 30 => .array .long
  | 31 => .long
  | 32 => .long
  | 33 => .array .long
  | 34 => .array .long
  | 35 => .array .int
  | _ => .int
abbrev wsX70 : List Cond := u_ws RX7 TX7 37
theorem nmX7 : ∀ a, a < 37 → ∀ b, b < 37 → a ≠ b → (TX7 a).2.1 ≠ (TX7 b).2.1 := by decide +kernel
theorem tyX7_ok : ∀ k, k < 37 → parseFieldDescriptor (TX7 k).2.2.1 = some (tyX7 k) := by decide +kernel
abbrev cX7_init : ByteArray := prog_9_method_1_code
def yX7_init : MethodName := ⟨RX7, "<init>", "()V"⟩
abbrev cX7_in : ByteArray := prog_9_method_3_code
def yX7_in : MethodName := ⟨RX7, "in", "(JJJ)Z"⟩
abbrev cX7_finding : ByteArray := prog_9_method_4_code
def yX7_finding : MethodName := ⟨RX7, "finding", "(I)J"⟩
abbrev cX7_isRow : ByteArray := prog_9_method_5_code
def yX7_isRow : MethodName := ⟨RX7, "isRow", "(I)Z"⟩
abbrev cX7_row : ByteArray := prog_9_method_6_code
def yX7_row : MethodName := ⟨RX7, "row", "(III)J"⟩
abbrev cX7_set : ByteArray := prog_9_method_7_code
def yX7_set : MethodName := ⟨RX7, "set", "(III)J"⟩
abbrev cX7_copy : ByteArray := prog_9_method_8_code
def yX7_copy : MethodName := ⟨RX7, "copy", "(IIIII)J"⟩
abbrev cX7_drop : ByteArray := prog_9_method_9_code
def yX7_drop : MethodName := ⟨RX7, "drop", "(I)J"⟩
abbrev cX7_lookItems : ByteArray := prog_9_method_10_code
def yX7_lookItems : MethodName := ⟨RX7, "lookItems", "(III)J"⟩
abbrev cX7_feed : ByteArray := prog_9_method_11_code
def yX7_feed : MethodName := ⟨RX7, "feed", "(JI)J"⟩
abbrev cX7_byteAt : ByteArray := prog_9_method_12_code
def yX7_byteAt : MethodName := ⟨RX7, "byteAt", "(I)I"⟩
abbrev cX7_isLetter : ByteArray := prog_9_method_13_code
def yX7_isLetter : MethodName := ⟨RX7, "isLetter", "(I)Z"⟩
abbrev cX7_isFigure : ByteArray := prog_9_method_14_code
def yX7_isFigure : MethodName := ⟨RX7, "isFigure", "(I)Z"⟩
abbrev cX7_next : ByteArray := prog_9_method_15_code
def yX7_next : MethodName := ⟨RX7, "next", "()V"⟩
abbrev cX7_bad : ByteArray := prog_9_method_16_code
def yX7_bad : MethodName := ⟨RX7, "bad", "(I)V"⟩
abbrev cX7_must : ByteArray := prog_9_method_17_code
def yX7_must : MethodName := ⟨RX7, "must", "(Z)V"⟩
abbrev cX7_word : ByteArray := prog_9_method_18_code
def yX7_word : MethodName := ⟨RX7, "word", "()J"⟩
abbrev cX7_numberTo : ByteArray := prog_9_method_19_code
def yX7_numberTo : MethodName := ⟨RX7, "numberTo", "(I)I"⟩
abbrev cX7_isWord : ByteArray := prog_9_method_20_code
def yX7_isWord : MethodName := ⟨RX7, "isWord", "(J)Z"⟩
abbrev cX7_mustEnd : ByteArray := prog_9_method_21_code
def yX7_mustEnd : MethodName := ⟨RX7, "mustEnd", "()V"⟩
abbrev cX7_readGood : ByteArray := prog_9_method_22_code
def yX7_readGood : MethodName := ⟨RX7, "readGood", "()V"⟩
abbrev cX7_readLand : ByteArray := prog_9_method_23_code
def yX7_readLand : MethodName := ⟨RX7, "readLand", "()V"⟩
abbrev cX7_world : ByteArray := prog_9_method_24_code
def yX7_world : MethodName := ⟨RX7, "world", "()J"⟩
abbrev cX7_fault : ByteArray := prog_9_method_25_code
def yX7_fault : MethodName := ⟨RX7, "fault", "()I"⟩
abbrev cX7_isLand : ByteArray := prog_9_method_26_code
def yX7_isLand : MethodName := ⟨RX7, "isLand", "(I)Z"⟩
abbrev cX7_isGood : ByteArray := prog_9_method_27_code
def yX7_isGood : MethodName := ⟨RX7, "isGood", "(I)Z"⟩
abbrev cX7_told : ByteArray := prog_9_method_28_code
def yX7_told : MethodName := ⟨RX7, "told", "(III)J"⟩
abbrev cX7_counts : ByteArray := prog_9_method_29_code
def yX7_counts : MethodName := ⟨RX7, "counts", "(II)Z"⟩
abbrev cX7_costOf : ByteArray := prog_9_method_30_code
def yX7_costOf : MethodName := ⟨RX7, "costOf", "(II)J"⟩
abbrev cX7_priceOf : ByteArray := prog_9_method_31_code
def yX7_priceOf : MethodName := ⟨RX7, "priceOf", "(II)J"⟩
abbrev cX7_makersOf : ByteArray := prog_9_method_32_code
def yX7_makersOf : MethodName := ⟨RX7, "makersOf", "(II)I"⟩
abbrev cX7_allShares : ByteArray := prog_9_method_33_code
def yX7_allShares : MethodName := ⟨RX7, "allShares", "()I"⟩
abbrev cX7_incomeOf : ByteArray := prog_9_method_34_code
def yX7_incomeOf : MethodName := ⟨RX7, "incomeOf", "(I)J"⟩
abbrev cX7_idleOf : ByteArray := prog_9_method_35_code
def yX7_idleOf : MethodName := ⟨RX7, "idleOf", "(I)I"⟩
abbrev cX7_isRest : ByteArray := prog_9_method_36_code
def yX7_isRest : MethodName := ⟨RX7, "isRest", "(IJJJ)Z"⟩
abbrev cX7_isRowAtRest : ByteArray := prog_9_method_37_code
def yX7_isRowAtRest : MethodName := ⟨RX7, "isRowAtRest", "(I)Z"⟩
abbrev cX7_bind : ByteArray := prog_9_method_38_code
def yX7_bind : MethodName := ⟨RX7, "bind", "(IIIJ)V"⟩
abbrev cX7_isPairBound : ByteArray := prog_9_method_39_code
def yX7_isPairBound : MethodName := ⟨RX7, "isPairBound", "(III)Z"⟩
abbrev cX7_isParted : ByteArray := prog_9_method_40_code
def yX7_isParted : MethodName := ⟨RX7, "isParted", "(IIII)Z"⟩
abbrev cX7_isPartBound : ByteArray := prog_9_method_41_code
def yX7_isPartBound : MethodName := ⟨RX7, "isPartBound", "(III)Z"⟩
abbrev cX7_rest : ByteArray := prog_9_method_42_code
def yX7_rest : MethodName := ⟨RX7, "rest", "(I)V"⟩
abbrev cX7_every : ByteArray := prog_9_method_43_code
def yX7_every : MethodName := ⟨RX7, "every", "()I"⟩
abbrev cX7_restAll : ByteArray := prog_9_method_44_code
def yX7_restAll : MethodName := ⟨RX7, "restAll", "()V"⟩
abbrev cX7_common : ByteArray := prog_9_method_45_code
def yX7_common : MethodName := ⟨RX7, "common", "(JJ)J"⟩
abbrev cX7_partOf : ByteArray := prog_9_method_46_code
def yX7_partOf : MethodName := ⟨RX7, "partOf", "(JJI)J"⟩
abbrev cX7_wage : ByteArray := prog_9_method_47_code
def yX7_wage : MethodName := ⟨RX7, "wage", "(II)J"⟩
abbrev cX7_price : ByteArray := prog_9_method_48_code
def yX7_price : MethodName := ⟨RX7, "price", "(II)J"⟩
abbrev cX7_gain : ByteArray := prog_9_method_49_code
def yX7_gain : MethodName := ⟨RX7, "gain", "(III)J"⟩
abbrev cX7_judge : ByteArray := prog_9_method_50_code
def yX7_judge : MethodName := ⟨RX7, "judge", "(II)J"⟩
abbrev cX7_isAhead : ByteArray := prog_9_method_51_code
def yX7_isAhead : MethodName := ⟨RX7, "isAhead", "(IIII)Z"⟩
abbrev cX7_chain : ByteArray := prog_9_method_52_code
def yX7_chain : MethodName := ⟨RX7, "chain", "(III)J"⟩
abbrev cX7_gives : ByteArray := prog_9_method_53_code
def yX7_gives : MethodName := ⟨RX7, "gives", "(III)Z"⟩
abbrev cX7_isRing : ByteArray := prog_9_method_54_code
def yX7_isRing : MethodName := ⟨RX7, "isRing", "(IIII)Z"⟩
abbrev cX7_more : ByteArray := prog_9_method_55_code
def yX7_more : MethodName := ⟨RX7, "more", "(II)J"⟩
abbrev cX7_stays : ByteArray := prog_9_method_56_code
def yX7_stays : MethodName := ⟨RX7, "stays", "(III)J"⟩
abbrev cX7_note : ByteArray := prog_9_method_57_code
def yX7_note : MethodName := ⟨RX7, "note", "()V"⟩
abbrev cX7_learn : ByteArray := prog_9_method_58_code
def yX7_learn : MethodName := ⟨RX7, "learn", "(III)J"⟩
abbrev cX7_on : ByteArray := prog_9_method_59_code
def yX7_on : MethodName := ⟨RX7, "on", "(I)J"⟩
abbrev cX7_isOther : ByteArray := prog_9_method_60_code
def yX7_isOther : MethodName := ⟨RX7, "isOther", "(IIII)Z"⟩
abbrev cX7_edge : ByteArray := prog_9_method_61_code
def yX7_edge : MethodName := ⟨RX7, "edge", "(II)J"⟩
abbrev cX7_movesOne : ByteArray := prog_9_method_62_code
def yX7_movesOne : MethodName := ⟨RX7, "movesOne", "()Z"⟩
abbrev cX7_move : ByteArray := prog_9_method_63_code
def yX7_move : MethodName := ⟨RX7, "move", "(I)J"⟩
abbrev cX7_bits : ByteArray := prog_9_method_64_code
def yX7_bits : MethodName := ⟨RX7, "bits", "(I)I"⟩
abbrev cX7_kindOf : ByteArray := prog_9_method_65_code
def yX7_kindOf : MethodName := ⟨RX7, "kindOf", "(I)I"⟩
abbrev cX7_isOf : ByteArray := prog_9_method_66_code
def yX7_isOf : MethodName := ⟨RX7, "isOf", "(II)Z"⟩
abbrev cX7_kind : ByteArray := prog_9_method_67_code
def yX7_kind : MethodName := ⟨RX7, "kind", "(I)J"⟩
abbrev cX7_as : ByteArray := prog_9_method_68_code
def yX7_as : MethodName := ⟨RX7, "as", "(II)J"⟩
abbrev cX7_began : ByteArray := prog_9_method_69_code
def yX7_began : MethodName := ⟨RX7, "began", "(I)V"⟩
abbrev cX7_shareOf : ByteArray := prog_9_method_70_code
def yX7_shareOf : MethodName := ⟨RX7, "shareOf", "(I)I"⟩
abbrev cX7_aloneMark : ByteArray := prog_9_method_71_code
def yX7_aloneMark : MethodName := ⟨RX7, "aloneMark", "(II)I"⟩
abbrev cX7_commonSize : ByteArray := prog_9_method_72_code
def yX7_commonSize : MethodName := ⟨RX7, "commonSize", "(II)I"⟩
abbrev cX7_sizeOf : ByteArray := prog_9_method_73_code
def yX7_sizeOf : MethodName := ⟨RX7, "sizeOf", "(II)I"⟩
abbrev cX7_markOf : ByteArray := prog_9_method_74_code
def yX7_markOf : MethodName := ⟨RX7, "markOf", "(II)I"⟩
abbrev cX7_ask : ByteArray := prog_9_method_75_code
def yX7_ask : MethodName := ⟨RX7, "ask", "(II)J"⟩
abbrev cX7_trace : ByteArray := prog_9_method_76_code
def yX7_trace : MethodName := ⟨RX7, "trace", "(I)I"⟩
abbrev cX7_count : ByteArray := prog_9_method_77_code
def yX7_count : MethodName := ⟨RX7, "count", "(I)J"⟩
abbrev cX7_status : ByteArray := prog_9_method_78_code
def yX7_status : MethodName := ⟨RX7, "status", "()I"⟩
def RJ6 : String := "java/lang/Integer"
def TJ6 : u_T := fun k => match k with
  | _ => ("", "", "", false)
def tyJ6 : Nat → FieldType := fun k => match k with
  | _ => .int
abbrev wsJ60 : List Cond := u_ws RJ6 TJ6 0
theorem nmJ6 : ∀ a, a < 0 → ∀ b, b < 0 → a ≠ b → (TJ6 a).2.1 ≠ (TJ6 b).2.1 := by decide +kernel
theorem tyJ6_ok : ∀ k, k < 0 → parseFieldDescriptor (TJ6 k).2.2.1 = some (tyJ6 k) := by decide +kernel
abbrev cJ6_bitCount_0f7a4 : ByteArray := prog_10_method_49_code
def yJ6_bitCount_0f7a4 : MethodName := ⟨RJ6, "bitCount", "(I)I"⟩
def RJ9 : String := "java/lang/Math"
def TJ9 : u_T := fun k => match k with
  | _ => ("", "", "", false)
def tyJ9 : Nat → FieldType := fun k => match k with
  | _ => .int
abbrev wsJ90 : List Cond := u_ws RJ9 TJ9 0
theorem nmJ9 : ∀ a, a < 0 → ∀ b, b < 0 → a ≠ b → (TJ9 a).2.1 ≠ (TJ9 b).2.1 := by decide +kernel
theorem tyJ9_ok : ∀ k, k < 0 → parseFieldDescriptor (TJ9 k).2.2.1 = some (tyJ9 k) := by decide +kernel
abbrev cJ9_min_f86c9 : ByteArray := prog_11_method_70_code
def yJ9_min_f86c9 : MethodName := ⟨RJ9, "min", "(JJ)J"⟩
def RJ0 : String := "java/lang/String"
def TJ0 : u_T := fun k => match k with
  | _ => ("", "", "", false)
def tyJ0 : Nat → FieldType := fun k => match k with
  | _ => .int
abbrev wsJ00 : List Cond := u_ws RJ0 TJ0 0
theorem nmJ0 : ∀ a, a < 0 → ∀ b, b < 0 → a ≠ b → (TJ0 a).2.1 ≠ (TJ0 b).2.1 := by decide +kernel
theorem tyJ0_ok : ∀ k, k < 0 → parseFieldDescriptor (TJ0 k).2.2.1 = some (tyJ0 k) := by decide +kernel
abbrev cJ0_length_8abf5 : ByteArray := prog_12_method_54_code
def yJ0_length_8abf5 : MethodName := ⟨RJ0, "length", "()I"⟩
abbrev cJ0_charAt_5068e : ByteArray := prog_12_method_56_code
def yJ0_charAt_5068e : MethodName := ⟨RJ0, "charAt", "(I)C"⟩
abbrev cJ0_coder_7d493 : ByteArray := prog_12_method_152_code
def yJ0_coder_7d493 : MethodName := ⟨RJ0, "coder", "()B"⟩
abbrev cJ0_isLatin1_aae02 : ByteArray := prog_12_method_154_code
def yJ0_isLatin1_aae02 : MethodName := ⟨RJ0, "isLatin1", "()Z"⟩
abbrev cJ0_checkIndex_df160 : ByteArray := prog_12_method_155_code
def yJ0_checkIndex_df160 : MethodName := ⟨RJ0, "checkIndex", "(II)V"⟩
def RJ1 : String := "java/lang/StringLatin1"
def TJ1 : u_T := fun k => match k with
  | _ => ("", "", "", false)
def tyJ1 : Nat → FieldType := fun k => match k with
  | _ => .int
abbrev wsJ10 : List Cond := u_ws RJ1 TJ1 0
theorem nmJ1 : ∀ a, a < 0 → ∀ b, b < 0 → a ≠ b → (TJ1 a).2.1 ≠ (TJ1 b).2.1 := by decide +kernel
theorem tyJ1_ok : ∀ k, k < 0 → parseFieldDescriptor (TJ1 k).2.2.1 = some (tyJ1 k) := by decide +kernel
abbrev cJ1_charAt_3b067 : ByteArray := prog_13_method_2_code
def yJ1_charAt_3b067 : MethodName := ⟨RJ1, "charAt", "([BI)C"⟩
def RJ2 : String := "java/lang/StringUTF16"
def TJ2 : u_T := fun k => match k with
  | _ => ("", "", "", false)
def tyJ2 : Nat → FieldType := fun k => match k with
  | _ => .int
abbrev wsJ20 : List Cond := u_ws RJ2 TJ2 0
theorem nmJ2 : ∀ a, a < 0 → ∀ b, b < 0 → a ≠ b → (TJ2 a).2.1 ≠ (TJ2 b).2.1 := by decide +kernel
theorem tyJ2_ok : ∀ k, k < 0 → parseFieldDescriptor (TJ2 k).2.2.1 = some (tyJ2 k) := by decide +kernel
abbrev cJ2_getChar_3b067 : ByteArray := prog_14_method_5_code
def yJ2_getChar_3b067 : MethodName := ⟨RJ2, "getChar", "([BI)C"⟩
abbrev cJ2_length_9d52b : ByteArray := prog_14_method_6_code
def yJ2_length_9d52b : MethodName := ⟨RJ2, "length", "([B)I"⟩
abbrev cJ2_charAt_3b067 : ByteArray := prog_14_method_83_code
def yJ2_charAt_3b067 : MethodName := ⟨RJ2, "charAt", "([BI)C"⟩
abbrev cJ2_checkIndex_2214a : ByteArray := prog_14_method_91_code
def yJ2_checkIndex_2214a : MethodName := ⟨RJ2, "checkIndex", "(I[B)V"⟩
def RJ10 : String := "java/lang/System"
def TJ10 : u_T := fun k => match k with
  | _ => ("", "", "", false)
def tyJ10 : Nat → FieldType := fun k => match k with
  | _ => .int
abbrev wsJ100 : List Cond := u_ws RJ10 TJ10 0
theorem nmJ10 : ∀ a, a < 0 → ∀ b, b < 0 → a ≠ b → (TJ10 a).2.1 ≠ (TJ10 b).2.1 := by decide +kernel
theorem tyJ10_ok : ∀ k, k < 0 → parseFieldDescriptor (TJ10 k).2.2.1 = some (tyJ10 k) := by decide +kernel
def RJ3 : String := "jdk/internal/util/Preconditions"
def TJ3 : u_T := fun k => match k with
  | _ => ("", "", "", false)
def tyJ3 : Nat → FieldType := fun k => match k with
  | _ => .int
abbrev wsJ30 : List Cond := u_ws RJ3 TJ3 0
theorem nmJ3 : ∀ a, a < 0 → ∀ b, b < 0 → a ≠ b → (TJ3 a).2.1 ≠ (TJ3 b).2.1 := by decide +kernel
theorem tyJ3_ok : ∀ k, k < 0 → parseFieldDescriptor (TJ3 k).2.2.1 = some (tyJ3 k) := by decide +kernel
abbrev cJ3_checkIndex_8e157 : ByteArray := prog_16_method_11_code
def yJ3_checkIndex_8e157 : MethodName := ⟨RJ3, "checkIndex", "(IILjava/util/function/BiFunction;)I"⟩
def RL : String := "LandGoodsLaw"
abbrev cL_law : ByteArray := code
def yL_law : MethodName := ⟨RL, "law", "([I)Z"⟩
