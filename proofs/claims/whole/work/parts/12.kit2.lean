def zC : List Zc := [.inl (6, [.inr 1, .inr 13, .inr 15, .inr 17, .inr 32, .inr 37, .inr 46, .inr 55, .inr 64, .inr 65, .inl 0, .inl 0]), .inl (2, [.inr 2, .inr 11, .inr 12]), .inr (3, 8, [3, 4, 5, 6, 7, 8, 9, 10]), .inr (0, 40, []), .inr (0, 40, []), .inr (0, 40, []), .inr (0, 40, []), .inr (0, 40, []), .inr (0, 40, []), .inr (0, 40, []), .inr (0, 40, []), .inr (0, 8, []), .inr (0, 8, []), .inl (3, [.inr 14, .inl 0, .inl 0, .inl 0, .inl 0, .inl 0, .inl 0, .inl 0]), .inr (2, 400, []), .inl (4, [.inr 16, .inl 0]), .inr (0, 16, []), .inl (1, [.inr 18, .inr 23, .inr 28]), .inl (0, [.inl 0, .inr 19, .inr 20, .inr 21, .inr 22, .inl 1, .inl 1, .inl 1, .inl 1]), .inr (0, 6, []), .inr (1, 6, []), .inr (1, 6, []), .inr (0, 6, []), .inl (0, [.inl 0, .inr 24, .inr 25, .inr 26, .inr 27, .inl 1, .inl 1, .inl 1, .inl 1]), .inr (0, 6, []), .inr (1, 6, []), .inr (1, 6, []), .inr (0, 6, []), .inr (3, 3, [29, 30, 31]), .inr (0, 6, []), .inr (0, 6, []), .inr (0, 6, []), .inl (0, [.inl 0, .inr 33, .inr 34, .inr 35, .inr 36, .inl 1, .inl 1, .inl 1, .inl 1]), .inr (0, 6, []), .inr (1, 6, []), .inr (1, 6, []), .inr (0, 6, []), .inl (5, [.inl 0, .inl 0, .inr 38, .inr 39, .inr 40, .inr 44, .inr 45]), .inr (0, 6, []), .inr (0, 3, []), .inr (3, 3, [41, 42, 43]), .inr (0, 6, []), .inr (0, 6, []), .inr (0, 6, []), .inr (1, 3, []), .inr (0, 6, []), .inl (5, [.inl 0, .inl 0, .inr 47, .inr 48, .inr 49, .inr 53, .inr 54]), .inr (0, 6, []), .inr (0, 3, []), .inr (3, 3, [50, 51, 52]), .inr (0, 6, []), .inr (0, 6, []), .inr (0, 6, []), .inr (1, 3, []), .inr (0, 6, []), .inl (5, [.inl 0, .inl 0, .inr 56, .inr 57, .inr 58, .inr 62, .inr 63]), .inr (0, 6, []), .inr (0, 3, []), .inr (3, 3, [59, 60, 61]), .inr (0, 6, []), .inr (0, 6, []), .inr (0, 6, []), .inr (1, 3, []), .inr (0, 6, []), .inr (1, 3, []), .inr (0, 6, [])]
def zM : List Zc := [.inl (7, [.inl 0, .inl 0, .inr 1, .inr 2, .inr 3, .inl 0, .inl 0, .inr 4, .inr 5, .inr 6, .inl 0, .inl 0, .inr 7, .inr 8, .inr 9, .inr 10, .inl 0, .inl 0, .inl 0, .inl 0, .inl 0, .inl 0, .inl 0, .inl 0, .inl 0, .inl 0, .inr 11, .inr 12, .inr 13, .inl 0, .inr 14, .inl 1, .inl 1, .inr 15, .inr 16, .inr 17, .inl 0]), .inr (0, 8, []), .inr (0, 8, []), .inr (0, 320, []), .inr (0, 6, []), .inr (0, 3, []), .inr (0, 18, []), .inr (0, 6, []), .inr (0, 3, []), .inr (0, 18, []), .inr (0, 400, []), .inr (1, 3, []), .inr (0, 6, []), .inr (1, 3, []), .inr (1, 3, []), .inr (1, 18, []), .inr (1, 18, []), .inr (0, 16, [])]
theorem zs0 : zC[0]? = some (.inl (6, [.inr 1, .inr 13, .inr 15, .inr 17, .inr 32, .inr 37, .inr 46, .inr 55, .inr 64, .inr 65, .inl 0, .inl 0])) := rfl
theorem zs1 : zC[1]? = some (.inl (2, [.inr 2, .inr 11, .inr 12])) := rfl
theorem zs2 : zC[2]? = some (.inr (3, 8, [3, 4, 5, 6, 7, 8, 9, 10])) := rfl
theorem zs11 : zC[11]? = some (.inr (0, 8, [])) := rfl
theorem zs12 : zC[12]? = some (.inr (0, 8, [])) := rfl
theorem zs13 : zC[13]? = some (.inl (3, [.inr 14, .inl 0, .inl 0, .inl 0, .inl 0, .inl 0, .inl 0, .inl 0])) := rfl
theorem zs14 : zC[14]? = some (.inr (2, 400, [])) := rfl
theorem zs15 : zC[15]? = some (.inl (4, [.inr 16, .inl 0])) := rfl
theorem zs16 : zC[16]? = some (.inr (0, 16, [])) := rfl
theorem zs17 : zC[17]? = some (.inl (1, [.inr 18, .inr 23, .inr 28])) := rfl
theorem zs28 : zC[28]? = some (.inr (3, 3, [29, 30, 31])) := rfl
theorem zs64 : zC[64]? = some (.inr (1, 3, [])) := rfl
theorem zs65 : zC[65]? = some (.inr (0, 6, [])) := rfl
theorem zm0 : zM[0]? = some (.inl (7, [.inl 0, .inl 0, .inr 1, .inr 2, .inr 3, .inl 0, .inl 0, .inr 4, .inr 5, .inr 6, .inl 0, .inl 0, .inr 7, .inr 8, .inr 9, .inr 10, .inl 0, .inl 0, .inl 0, .inl 0, .inl 0, .inl 0, .inl 0, .inl 0, .inl 0, .inl 0, .inr 11, .inr 12, .inr 13, .inl 0, .inr 14, .inl 1, .inl 1, .inr 15, .inr 16, .inr 17, .inl 0])) := rfl
theorem zm1 : zM[1]? = some (.inr (0, 8, [])) := rfl
theorem zm2 : zM[2]? = some (.inr (0, 8, [])) := rfl
theorem zm3 : zM[3]? = some (.inr (0, 320, [])) := rfl
theorem zm4 : zM[4]? = some (.inr (0, 6, [])) := rfl
theorem zm5 : zM[5]? = some (.inr (0, 3, [])) := rfl
theorem zm6 : zM[6]? = some (.inr (0, 18, [])) := rfl
theorem zm7 : zM[7]? = some (.inr (0, 6, [])) := rfl
theorem zm8 : zM[8]? = some (.inr (0, 3, [])) := rfl
theorem zm9 : zM[9]? = some (.inr (0, 18, [])) := rfl
theorem zm10 : zM[10]? = some (.inr (0, 400, [])) := rfl
theorem zm11 : zM[11]? = some (.inr (1, 3, [])) := rfl
theorem zm12 : zM[12]? = some (.inr (0, 6, [])) := rfl
theorem zm13 : zM[13]? = some (.inr (1, 3, [])) := rfl
theorem zm14 : zM[14]? = some (.inr (1, 3, [])) := rfl
theorem zm15 : zM[15]? = some (.inr (1, 18, [])) := rfl
theorem zm16 : zM[16]? = some (.inr (1, 18, [])) := rfl
theorem zm17 : zM[17]? = some (.inr (0, 16, [])) := rfl
theorem zrs3 (o : Nat) : ∀ j, j < 3 → ([o + 4, o + 5, o + 6] : List Nat)[j]? = some (o + 4 + j) := by
  intro j hj
  rcases (show j = 0 ∨ j = 1 ∨ j = 2 by omega) with rfl | rfl | rfl <;> rfl
theorem zs2r : ∀ j, j < 8 → ([3, 4, 5, 6, 7, 8, 9, 10] : List Nat)[j]? = some (3 + j) := by decide
theorem zs2g : ∀ j, j < 8 → zC[3 + j]? = some (.inr (0, 40, [])) := by
  intro j hj
  rcases (show j = 0 ∨ j = 1 ∨ j = 2 ∨ j = 3 ∨ j = 4 ∨ j = 5 ∨ j = 6 ∨ j = 7 by omega) with rfl | rfl | rfl | rfl | rfl | rfl | rfl | rfl <;> rfl
theorem zs28r : ∀ j, j < 3 → ([29, 30, 31] : List Nat)[j]? = some (29 + j) := by decide
theorem zs28g : ∀ j, j < 3 → zC[29 + j]? = some (.inr (0, 6, [])) := by
  intro j hj
  rcases (show j = 0 ∨ j = 1 ∨ j = 2 by omega) with rfl | rfl | rfl <;> rfl
def zW (o : Nat) : Prop := zC[o]? = some (.inl (5, [.inl 0, .inl 0, .inr (o + 1), .inr (o + 2), .inr (o + 3), .inr (o + 7), .inr (o + 8)])) ∧ zC[o + 1]? = some (.inr (0, 6, [])) ∧ zC[o + 2]? = some (.inr (0, 3, [])) ∧ zC[o + 3]? = some (.inr (3, 3, [o + 4, o + 5, o + 6])) ∧ (∀ j, j < 3 → zC[o + 4 + j]? = some (.inr (0, 6, []))) ∧ zC[o + 7]? = some (.inr (1, 3, [])) ∧ zC[o + 8]? = some (.inr (0, 6, []))
def zPr (o : Nat) : Prop := zC[o]? = some (.inl (0, [.inl 0, .inr (o + 1), .inr (o + 2), .inr (o + 3), .inr (o + 4), .inl 1, .inl 1, .inl 1, .inl 1])) ∧ zC[o + 1]? = some (.inr (0, 6, [])) ∧ zC[o + 2]? = some (.inr (1, 6, [])) ∧ zC[o + 3]? = some (.inr (1, 6, [])) ∧ zC[o + 4]? = some (.inr (0, 6, []))
theorem zW_37 : zW 37 := ⟨rfl, rfl, rfl, rfl, fun j hj => by rcases (show j = 0 ∨ j = 1 ∨ j = 2 by omega) with rfl | rfl | rfl <;> rfl, rfl, rfl⟩
theorem zW_46 : zW 46 := ⟨rfl, rfl, rfl, rfl, fun j hj => by rcases (show j = 0 ∨ j = 1 ∨ j = 2 by omega) with rfl | rfl | rfl <;> rfl, rfl, rfl⟩
theorem zW_55 : zW 55 := ⟨rfl, rfl, rfl, rfl, fun j hj => by rcases (show j = 0 ∨ j = 1 ∨ j = 2 by omega) with rfl | rfl | rfl <;> rfl, rfl, rfl⟩
theorem zPr_18 : zPr 18 := ⟨rfl, rfl, rfl, rfl, rfl⟩
theorem zPr_23 : zPr 23 := ⟨rfl, rfl, rfl, rfl, rfl⟩
theorem zPr_32 : zPr 32 := ⟨rfl, rfl, rfl, rfl, rfl⟩
def fuel0 : Nat := 1000
theorem z_nm {α β : Type} {x : α} {F : α → β} {z : β} (h : lt_ x F = z) : ∃ v : α, v = x ∧ F v = z := ⟨x, rfl, h⟩
def bok (v : Int32) : Bool := decide (v = 0 ∨ v = 1)
theorem bok_nar {v : Int32} (h : bok v = true) : narrow .boolean (.int v) = .int v := by
  have h1 : v = 0 ∨ v = 1 := of_decide_eq_true h
  rcases h1 with rfl | rfl <;> decide
def cpok (sp dp n : Int32) (n0 n1 : Nat) : Bool := decide (¬ sp < 0 ∧ ¬ dp < 0 ∧ ¬ n < 0 ∧ sp.toNatClampNeg + n.toNatClampNeg ≤ n0 ∧ dp.toNatClampNeg + n.toNatClampNeg ≤ n1)
theorem ztsw {x : Int32} {n : Nat} {lo : Int} (h : ∀ k : Nat, k < n → ¬ x.toInt = lo + k) : x.toInt < lo ∨ lo + n - 1 < x.toInt := by
  rcases Int.lt_or_le x.toInt lo with h1 | h1
  · exact Or.inl h1
  · rcases Int.lt_or_le (lo + n - 1) x.toInt with h2 | h2
    · exact Or.inr h2
    · exact absurd (show x.toInt = lo + ((x.toInt - lo).toNat : Nat) by omega) (h (x.toInt - lo).toNat (by omega))
theorem zne {x y : Int32} {a : Int} (h : ¬ x = y) (hy : y.toInt = a) : ¬ x.toInt = a := fun q => h (Int32.toInt_inj.mp (q.trans hy.symm))
/-- the words of the JDK's own -/
def zWmin (own : String) (index : Nat) : Prop := Cond.methodLink own index Lib.MathLoose.min_long.x ∈ ztb
def zWcp (own : String) (index : Nat) : Prop := Cond.methodLink own index arraycopyName ∈ ztb
theorem zw_min1 : Cond.static Lib.MathLoose.min_long.x ∈ ztb := zmem 528 (by decide +kernel) (by decide +kernel)
theorem zw_min2 : Cond.initialized "java/lang/Math" ∈ ztb := zmem 88 (by decide +kernel) (by decide +kernel)
theorem zw_min3 : Cond.code Lib.MathLoose.min_long.x Lib.MathLoose.min_long.code 4 (some .long) ∈ ztb := zmem 529 (by decide +kernel) (by decide +kernel)
theorem zw_cp1 : Cond.native arraycopyName ∈ ztb := zmem 364 (by decide +kernel) (by decide +kernel)
theorem zw_cp2 : Cond.static arraycopyName ∈ ztb := zmem 363 (by decide +kernel) (by decide +kernel)
theorem zw_cp3 : Cond.initialized "java/lang/System" ∈ ztb := zmem 83 (by decide +kernel) (by decide +kernel)
theorem zw_bc2 : Cond.static yJ6_bitCount_0f7a4 ∈ ztb := zmem 712 (by decide +kernel) (by decide +kernel)
theorem zw_bc3 : Cond.initialized RJ6 ∈ ztb := zmem 89 (by decide +kernel) (by decide +kernel)
theorem zw_bc4 : Cond.code yJ6_bitCount_0f7a4 cJ6_bitCount_0f7a4 1 (some .int) ∈ ztb := zmem 713 (by decide +kernel) (by decide +kernel)
theorem zw_bk265 : Cond.constant RJ6 265 (1431655765) ∈ ztb := zmem 714 (by decide +kernel) (by decide +kernel)
theorem zw_bk266 : Cond.constant RJ6 266 (858993459) ∈ ztb := zmem 715 (by decide +kernel) (by decide +kernel)
theorem zw_bk267 : Cond.constant RJ6 267 (252645135) ∈ ztb := zmem 716 (by decide +kernel) (by decide +kernel)
theorem zst6_282 : Cond.fieldLink RX6 282 "LandGoods" "RINGS" "[I" ∈ ztb := zmem 651 (by decide +kernel) (by decide +kernel)
theorem zbl6_294 : Cond.methodLink RX6 294 yJ6_bitCount_0f7a4 ∈ ztb := zmem 711 (by decide +kernel) (by decide +kernel)
theorem zbit6_294 : zWS RX6 294 yJ6_bitCount_0f7a4 cJ6_bitCount_0f7a4 1 (some .int) 1 := ⟨zbl6_294, zw_bc2, zw_bc3, zw_bc4, by decide +kernel⟩
theorem zst6_301 : Cond.fieldLink RX6 301 "LandGoods" "SIZE_BODIES" "[I" ∈ ztb := zmem 734 (by decide +kernel) (by decide +kernel)
theorem zst6_308 : Cond.fieldLink RX6 308 "LandGoods" "MARK_BODIES" "[I" ∈ ztb := zmem 748 (by decide +kernel) (by decide +kernel)
theorem zmin0_53 : Cond.methodLink RX0 53 Lib.MathLoose.min_long.x ∈ ztb := zmem 527 (by decide +kernel) (by decide +kernel)
theorem zacp2_21 : Cond.methodLink RX2 21 arraycopyName ∈ ztb := zmem 362 (by decide +kernel) (by decide +kernel)
theorem zacp5_37 : Cond.methodLink RX5 37 arraycopyName ∈ ztb := zmem 572 (by decide +kernel) (by decide +kernel)
theorem zmin5_47 : Cond.methodLink RX5 47 Lib.MathLoose.min_long.x ∈ ztb := zmem 606 (by decide +kernel) (by decide +kernel)
theorem zw_cd2 : Cond.static yX6_commonDivisor ∈ ztb := zmem 566 (by decide +kernel) (by decide +kernel)
section ZJ
variable {p : Program} {l : Launch} {e : Env} {R : Room} {s : State} {m : MethodId} {args : Array Value} {below : List Frame} {meth : Method} {c : Code} {H : Heap} {locs : List Loc} {cells slots : Nat} {Q : State → Prop}
variable {cc : ByteArray} {nL pc : Nat} {own : String} {ret : Option FieldType} {D : va_G} {cA : Nat → ClassId} {A : Nat → Prop} {ls : Array Slot} {rest : List Value} {sh : List Zc} {ad : Nat → Nat} {S : Zs} {index : Nat}
theorem z_zretC (C : zCx p s m args meth c cc nL own (some .boolean) D ad cA A) (P : zP D sh ad cA A S s H locs) {v : Int32} {z : Int32 × Zs} {β : Type} {X : Option β} {z' : β} (h : (if bok v = true then X else none) = some z') (hz : X = some z' → (v, S) = z) (hdg : decode cc pc = .ok (.ireturn, 1)) : W p l e R s m args below meth c H locs cells slots (MQ below (zQb D sh ad cA A z) args s cells slots A) (F0 m pc ls [.int v]) := by
  by_cases hv : bok v = true
  · rw [if_pos hv] at h
    exact z_zret C P (hz h) (bok_nar hv) hdg
  · rw [if_neg hv] at h
    cases h
theorem z_minL (C : zCx p s m args meth c cc nL own ret D ad cA A) (hw : Cond.methodLink own index Lib.MathLoose.min_long.x ∈ ztb) (hR : 1 ≤ R.frames ∧ 23 ≤ R.locals) (hl : ls.size = nL) (hcat : (rest.map fun v => v.category).sum ≤ 8) {x y : Int64} (hdg : decode cc pc = .ok (.invokestatic index, 3)) (hf : cells ≤ R.cells ∧ slots ≤ R.slots)
    (kk : W p l e R s m args below meth c H locs cells slots Q (F0 m (pc + 3) ls (.long (if y < x then y else x) :: rest))) : W p l e R s m args below meth c H locs cells slots Q (F0 m pc ls (.long y :: .long x :: rest)) := by
  obtain ⟨hx, hb, hml, hown, hts, -⟩ := C
  exact va_mmin_long hx hb (hml.trans hl.symm) hown (hts _ hw) (hts _ zw_min1) (hts _ zw_min2) (hts _ zw_min3) hR.1 (by omega) hf.1 hf.2 hdg kk
theorem z_acpI (C : zCx p s m args meth c cc nL own ret D ad cA A) (P : zP D sh ad cA A S s H locs) (hw : Cond.methodLink own index arraycopyName ∈ ztb) {q0 q1 n0 n1 : Nat} {r0 r1 : List Nat} (hs0 : sh[q0]? = some (.inr (0, n0, r0))) (hs1 : sh[q1]? = some (.inr (0, n1, r1))) (hR : 1 ≤ R.frames ∧ 68 ≤ R.locals) (hl : ls.size = nL) (hcat : (rest.map fun v => v.category).sum ≤ 8) (hdg : decode cc pc = .ok (.invokestatic index, 3)) {sp dp n : Int32} {β : Type} {z : β} {F : Zs → Option β} (h : (if cpok sp dp n n0 n1 = true then lt_ (zcI S q0 sp.toNatClampNeg q1 dp.toNatClampNeg n.toNatClampNeg) F else none) = some z)
    (kk : ∀ (S1 : Zs) (H1 : Heap) (locs1 : List Loc), F S1 = some z → zP D sh ad cA A S1 s H1 locs1 → W p l e R s m args below meth c H1 locs1 cells slots Q (F0 m (pc + 3) ls rest)) : W p l e R s m args below meth c H locs cells slots Q (F0 m pc ls (.int n :: .int dp :: .ref (ad q1) :: .int sp :: .ref (ad q0) :: rest)) := by
  obtain ⟨hx, hb, hml, hown, hts, hK, -⟩ := C
  by_cases hi : cpok sp dp n n0 n1 = true
  · rw [if_pos hi] at h
    obtain ⟨c1, c2, c3, c4, c5⟩ := of_decide_eq_true hi
    refine va_copyi hx hb (hml.trans hl.symm) hown (hts _ hw) (hts _ zw_cp1) (hts _ zw_cp2) (hts _ zw_cp3) hK P.1 P.2.1 P.2.2 q0 q1 0 0 (zw_at hs0) (zw_at hs1) rfl rfl rfl c1 c2 c3 c4 c5 (fun _ _ => rfl) hR.1 (by rw [show nativeFrameWords "java/lang/System" "arraycopy" 5 = 7 from by decide]; omega) hdg (fun H1 locs1 hP hD hS => ?_)
    rw [← zcI_1 S q0 sp.toNatClampNeg q1 dp.toNatClampNeg n.toNatClampNeg, show ((ad q1, (.inl (cA 0, n1, .inl ((zcI S q0 sp.toNatClampNeg q1 dp.toNatClampNeg n.toNatClampNeg).1 q1)) : va_E)) : Nat × va_E) = (ad q1, zcel ad cA (zcI S q0 sp.toNatClampNeg q1 dp.toNatClampNeg n.toNatClampNeg) q1 (.inr (0, n1, r1))) from rfl, zw_set hs1 (fun i9 y hi9 => zcel_eq (zcI_1n S _ _ _ _ hi9) rfl y)] at hP hD
    exact kk _ H1 locs1 h ⟨hP, hD, hS⟩
  · rw [if_neg hi] at h
    cases h
theorem z_acpL (C : zCx p s m args meth c cc nL own ret D ad cA A) (P : zP D sh ad cA A S s H locs) (hw : Cond.methodLink own index arraycopyName ∈ ztb) {q0 q1 n0 n1 : Nat} {r0 r1 : List Nat} (hs0 : sh[q0]? = some (.inr (1, n0, r0))) (hs1 : sh[q1]? = some (.inr (1, n1, r1))) (hR : 1 ≤ R.frames ∧ 68 ≤ R.locals) (hl : ls.size = nL) (hcat : (rest.map fun v => v.category).sum ≤ 8) (hdg : decode cc pc = .ok (.invokestatic index, 3)) {sp dp n : Int32} {β : Type} {z : β} {F : Zs → Option β} (h : (if cpok sp dp n n0 n1 = true then lt_ (zcL S q0 sp.toNatClampNeg q1 dp.toNatClampNeg n.toNatClampNeg) F else none) = some z)
    (kk : ∀ (S1 : Zs) (H1 : Heap) (locs1 : List Loc), F S1 = some z → zP D sh ad cA A S1 s H1 locs1 → W p l e R s m args below meth c H1 locs1 cells slots Q (F0 m (pc + 3) ls rest)) : W p l e R s m args below meth c H locs cells slots Q (F0 m pc ls (.int n :: .int dp :: .ref (ad q1) :: .int sp :: .ref (ad q0) :: rest)) := by
  obtain ⟨hx, hb, hml, hown, hts, hK, -⟩ := C
  by_cases hi : cpok sp dp n n0 n1 = true
  · rw [if_pos hi] at h
    obtain ⟨c1, c2, c3, c4, c5⟩ := of_decide_eq_true hi
    refine va_copyl hx hb (hml.trans hl.symm) hown (hts _ hw) (hts _ zw_cp1) (hts _ zw_cp2) (hts _ zw_cp3) hK P.1 P.2.1 P.2.2 q0 q1 1 1 (zw_at hs0) (zw_at hs1) rfl rfl rfl c1 c2 c3 c4 c5 (fun _ _ => rfl) hR.1 (by rw [show nativeFrameWords "java/lang/System" "arraycopy" 5 = 7 from by decide]; omega) hdg (fun H1 locs1 hP hD hS => ?_)
    rw [← zcL_2 S q0 sp.toNatClampNeg q1 dp.toNatClampNeg n.toNatClampNeg, show ((ad q1, (.inl (cA 1, n1, .inr (.inl ((zcL S q0 sp.toNatClampNeg q1 dp.toNatClampNeg n.toNatClampNeg).2 q1))) : va_E)) : Nat × va_E) = (ad q1, zcel ad cA (zcL S q0 sp.toNatClampNeg q1 dp.toNatClampNeg n.toNatClampNeg) q1 (.inr (1, n1, r1))) from rfl, zw_set (S := S) (S' := zcL S q0 sp.toNatClampNeg q1 dp.toNatClampNeg n.toNatClampNeg) hs1 (fun i9 y hi9 => zcel_eq (S := S) (S' := zcL S q0 sp.toNatClampNeg q1 dp.toNatClampNeg n.toNatClampNeg) rfl (zcL_2n S _ _ _ _ hi9) y)] at hP hD
    exact kk _ H1 locs1 h ⟨hP, hD, hS⟩
  · rw [if_neg hi] at h
    cases h
/-! static tables -/
theorem z_gets (C : zCx p s m args meth c cc nL own ret D ad cA A) (P : zP D sh ad cA A S s H locs) {nm : String} {t : Nat} (hZ : va_Z "LandGoods" nm "[I" (.ref t) A s s.heap) (hw : Cond.fieldLink own index "LandGoods" nm "[I" ∈ ztb) (hdg : decode cc pc = .ok (.getstatic index, 3))
    (kk : W p l e R s m args below meth c H locs cells slots Q (F0 m (pc + 3) ls (.ref t :: rest))) : W p l e R s m args below meth c H locs cells slots Q (F0 m pc ls rest) := by
  obtain ⟨hx, hb, hml, hown, hts, hK, -⟩ := C
  exact va_gets hx hb hZ P.2.2 hown (hts _ hw) (fun _ h9 => h9) hdg kk
theorem z_tald (C : zCx p s m args meth c cc nL own ret D ad cA A) (P : zP D sh ad cA A S s H locs) {t N : Nat} {xs : List Int32} (hT : va_T .int t N (fun j => .int (xs.getD j 0)) A s s.heap) (hdg : decode cc pc = .ok (.iaload, 1)) {i : Int32} {β : Type} {z : β} {X : Option β} (h : (if inb i N = true then X else none) = some z)
    (kk : X = some z → W p l e R s m args below meth c H locs cells slots Q (F0 m (pc + 1) ls (.int (xs.getD i.toNatClampNeg 0) :: rest))) : W p l e R s m args below meth c H locs cells slots Q (F0 m pc ls (.int i :: .ref t :: rest)) := by
  by_cases hi : inb i N = true
  · rw [if_pos hi] at h
    exact va_ti C.1 C.2.1 hT P.2.2 (z_in hi) rfl hdg (kk h)
  · rw [if_neg hi] at h
    cases h
theorem z_tlen (C : zCx p s m args meth c cc nL own ret D ad cA A) (P : zP D sh ad cA A S s H locs) {t N : Nat} {f : Nat → Value} (hT : va_T .int t N f A s s.heap) {v : Int32} (hv : Int32.ofNat N = v) (hdg : decode cc pc = .ok (.arraylength, 1))
    (kk : W p l e R s m args below meth c H locs cells slots Q (F0 m (pc + 1) ls (.int v :: rest))) : W p l e R s m args below meth c H locs cells slots Q (F0 m pc ls (.ref t :: rest)) := va_tlen C.1 C.2.1 hT P.2.2 hv hdg kk
/-! a call of a mate's method -/
theorem z_callNl (C : zCx p s m args meth c cc nL RX1 ret D ad cA A) (P : zP D sh ad cA A S s H locs) {bytes : ByteArray} {maxL fr lo : Nat} {As : List Value} {st0 : List Value} {r : Int64} {S' : Zs} (hM : zMl l yX6_commonDivisor cX6_commonDivisor 11 fr lo D sh ad cA S As (r, S')) (hroom : fr + 1 ≤ R.frames ∧ 8 + (11 + 11) + lo ≤ R.locals) (hn : As.length = 2) (hl : ls.size = nL) (hst : st0 = As.reverse ++ rest) (hcat : (rest.map fun v => v.category).sum ≤ 8) (hdg : decode cc pc = .ok (.invokestatic 95, 3)) (hf : cells ≤ R.cells ∧ slots ≤ R.slots)
    (kk : ∀ (H1 : Heap) (locs1 : List Loc), zP D sh ad cA A S' s H1 locs1 → W p l e R s m args below meth c H1 locs1 cells slots Q (F0 m (pc + 3) ls (.long r :: rest))) : W p l e R s m args below meth c H locs cells slots Q (F0 m pc ls st0) := by
  have hfr := zA_free P.2.1 P.2.2 C.2.2.2.2.2.2.1
  obtain ⟨hx, hb, hml, hown, hts, hK, hA, -, -, hSx⟩ := C
  have hg : GoodIn ztb (.code yX6_commonDivisor cX6_commonDivisor 11 (some .long) :: ztb) := zGood (fun w h => by
    rcases List.mem_cons.mp h with rfl | h
    · exact kC6_commonDivisor
    · exact h)
  have run : va_Run p l e R s m args below meth c H locs cells slots 0 0 (F0 m pc ls st0) rest (zQl D sh ad cA (zA sh ad cA S H.size) (r, S') As.toArray) (zA sh ad cA S H.size) :=
    va_runSN (As := As) (rest := rest) ⟨hx, hb, hml, hown, hts⟩ (hM H.size) ⟨va_cnB 2 hts hg rfl rfl rfl hSx.2.2.2.2.2.2.1 (hts _ kN6) (by decide +kernel) hroom, hts _ zw_cd2, trivial⟩ ⟨zPc_blind, fun U hU hW => ⟨rfl, by rw [hU], by rw [hU]; exact P.1, va_K.moved hW.alike hK, P.2.1.weaken (fun _ _ _ _ => trivial), hSx.pass P.2.2 hU hW hfr⟩⟩ rfl hn hl hst (lv_room hcat) hdg hf
  refine va_calll run P.2.2 (fun q _ h => hfr q h) hfr (fun r1 S1 t H1 locs1 ht hvm hp hB hz1 hk1 hS => ?_)
  obtain ⟨rfl, rfl⟩ := hp
  obtain ⟨hP1, hK1, hD1⟩ := hB
  rw [ht] at hP1
  exact kk H1 locs1 ⟨hP1, hD1.weaken (fun _ q _ h => hfr q.1 h), hS⟩
end ZJ
def fJ_bitCount (x0 : Int32) : Int32 :=
  lt_ (x0 - ((x0.toUInt32 >>> ((1 : Int32).toUInt32 &&& Int32.toUInt32 31)).toInt32 &&& (1431655765 : Int32))) fun v9 =>
  lt_ ((v9 &&& (858993459 : Int32)) + ((v9.toUInt32 >>> ((2 : Int32).toUInt32 &&& Int32.toUInt32 31)).toInt32 &&& (858993459 : Int32))) fun v23 =>
  lt_ ((v23 + (v23.toUInt32 >>> ((4 : Int32).toUInt32 &&& Int32.toUInt32 31)).toInt32) &&& (252645135 : Int32)) fun v33 =>
  lt_ (v33 + (v33.toUInt32 >>> ((8 : Int32).toUInt32 &&& Int32.toUInt32 31)).toInt32) fun v40 =>
  lt_ (v40 + (v40.toUInt32 >>> ((16 : Int32).toUInt32 &&& Int32.toUInt32 31)).toInt32) fun v47 =>
  (v47 &&& (63 : Int32))
theorem mJ_bitCount {l : Launch} {D : va_G} {cA : Nat → ClassId} {ad : Nat → Nat} {sh : List Zc} {x0 : Int32} {S : Zs} : zMi l yJ6_bitCount_0f7a4 cJ6_bitCount_0f7a4 1 0 0 D sh ad cA S [.int x0] (fJ_bitCount x0, S) := by
  obtain ⟨z, h⟩ : ∃ z, fJ_bitCount x0 = z := ⟨_, rfl⟩
  rw [h]
  refine z_enter (Qc := fun A => zQi D sh ad cA A (z, S)) (by decide +kernel) (Nat.le_of_ble_eq_true rfl) (fun p e s m below meth c A C P ls hl => ?_)
  have hx := C.1
  have hb := C.2.1
  have hl : lv_has ls 1 [(0, .int x0)] := hl
  unfold fJ_bitCount at h
  refine lv_iload_n hx hb dJ6_bitCount_0f7a4_0 rfl (lv_at hl 0 rfl) ?_
  refine lv_iload_n hx hb dJ6_bitCount_0f7a4_1 rfl (lv_at hl 0 rfl) ?_
  refine lv_iconst (v := 1) hx hb dJ6_bitCount_0f7a4_2 (by decide) ?_
  refine lv_iushr hx hb dJ6_bitCount_0f7a4_3 rfl ?_
  refine lv_ldcw (v := 1431655765) hx hb C.2.2.2.1 (C.2.2.2.2.1 _ zw_bk265) dJ6_bitCount_0f7a4_4 ?_
  refine lv_iand hx hb dJ6_bitCount_0f7a4_7 ?_
  refine lv_isub hx hb dJ6_bitCount_0f7a4_8 ?_
  refine z_topi h (fun v9 h => ?_)
  refine lv_istore_n (lv' := [(0, .int v9)]) hx hb dJ6_bitCount_0f7a4_9 rfl hl (by decide) rfl (fun ls hl => ?_)
  refine lv_iload_n hx hb dJ6_bitCount_0f7a4_10 rfl (lv_at hl 0 rfl) ?_
  refine lv_ldcw (v := 858993459) hx hb C.2.2.2.1 (C.2.2.2.2.1 _ zw_bk266) dJ6_bitCount_0f7a4_11 ?_
  refine lv_iand hx hb dJ6_bitCount_0f7a4_14 ?_
  refine lv_iload_n hx hb dJ6_bitCount_0f7a4_15 rfl (lv_at hl 0 rfl) ?_
  refine lv_iconst (v := 2) hx hb dJ6_bitCount_0f7a4_16 (by decide) ?_
  refine lv_iushr hx hb dJ6_bitCount_0f7a4_17 rfl ?_
  refine lv_ldcw (v := 858993459) hx hb C.2.2.2.1 (C.2.2.2.2.1 _ zw_bk266) dJ6_bitCount_0f7a4_18 ?_
  refine lv_iand hx hb dJ6_bitCount_0f7a4_21 ?_
  refine lv_iadd hx hb dJ6_bitCount_0f7a4_22 ?_
  refine z_topi h (fun v23 h => ?_)
  refine lv_istore_n (lv' := [(0, .int v23)]) hx hb dJ6_bitCount_0f7a4_23 rfl hl (by decide) rfl (fun ls hl => ?_)
  refine lv_iload_n hx hb dJ6_bitCount_0f7a4_24 rfl (lv_at hl 0 rfl) ?_
  refine lv_iload_n hx hb dJ6_bitCount_0f7a4_25 rfl (lv_at hl 0 rfl) ?_
  refine lv_iconst (v := 4) hx hb dJ6_bitCount_0f7a4_26 (by decide) ?_
  refine lv_iushr hx hb dJ6_bitCount_0f7a4_27 rfl ?_
  refine lv_iadd hx hb dJ6_bitCount_0f7a4_28 ?_
  refine lv_ldcw (v := 252645135) hx hb C.2.2.2.1 (C.2.2.2.2.1 _ zw_bk267) dJ6_bitCount_0f7a4_29 ?_
  refine lv_iand hx hb dJ6_bitCount_0f7a4_32 ?_
  refine z_topi h (fun v33 h => ?_)
  refine lv_istore_n (lv' := [(0, .int v33)]) hx hb dJ6_bitCount_0f7a4_33 rfl hl (by decide) rfl (fun ls hl => ?_)
  refine lv_iload_n hx hb dJ6_bitCount_0f7a4_34 rfl (lv_at hl 0 rfl) ?_
  refine lv_iload_n hx hb dJ6_bitCount_0f7a4_35 rfl (lv_at hl 0 rfl) ?_
  refine lv_bipush (v := 8) hx hb dJ6_bitCount_0f7a4_36 (by decide) ?_
  refine lv_iushr hx hb dJ6_bitCount_0f7a4_38 rfl ?_
  refine lv_iadd hx hb dJ6_bitCount_0f7a4_39 ?_
  refine z_topi h (fun v40 h => ?_)
  refine lv_istore_n (lv' := [(0, .int v40)]) hx hb dJ6_bitCount_0f7a4_40 rfl hl (by decide) rfl (fun ls hl => ?_)
  refine lv_iload_n hx hb dJ6_bitCount_0f7a4_41 rfl (lv_at hl 0 rfl) ?_
  refine lv_iload_n hx hb dJ6_bitCount_0f7a4_42 rfl (lv_at hl 0 rfl) ?_
  refine lv_bipush (v := 16) hx hb dJ6_bitCount_0f7a4_43 (by decide) ?_
  refine lv_iushr hx hb dJ6_bitCount_0f7a4_45 rfl ?_
  refine lv_iadd hx hb dJ6_bitCount_0f7a4_46 ?_
  refine z_topi h (fun v47 h => ?_)
  refine lv_istore_n (lv' := [(0, .int v47)]) hx hb dJ6_bitCount_0f7a4_47 rfl hl (by decide) rfl (fun ls hl => ?_)
  refine lv_iload_n hx hb dJ6_bitCount_0f7a4_48 rfl (lv_at hl 0 rfl) ?_
  refine lv_bipush (v := 63) hx hb dJ6_bitCount_0f7a4_49 (by decide) ?_
  refine lv_iand hx hb dJ6_bitCount_0f7a4_51 ?_
  exact z_iret C P (by rw [h]) dJ6_bitCount_0f7a4_52
