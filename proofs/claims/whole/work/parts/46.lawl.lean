set_option maxHeartbeats 4000000 in
set_option maxRecDepth 100000 in
theorem law_loop {p : Program} {l : Launch} {e : Env} {s : State} {m : MethodId} {below : List Frame} {meth : Method} {c : Code} {D : va_G} {cA : Nat → ClassId} {adC adM : Nat → Nat} {hC hM : Nat} {b L : Nat} {xs : Nat → Int32} {I : Zs → Zs → Prop} (hsim : zSim I) (hL : L ≤ 3072) (C0 : lw_At p s m meth c b L xs) (F : lwF s hC hM adC adM)
    (CC : zCx p s m #[Value.ref b] meth c code 4 R_law ret D adC cA (fun q : Nat => s.heap.size ≤ q)) (CM : zCx p s m #[Value.ref b] meth c code 4 R_law ret D adM cA (fun q : Nat => s.heap.size ≤ q)) (DC : ∀ S, va_D (fun q : Nat => s.heap.size ≤ q) (zw zC adC cA S)) (DM : ∀ S, va_D (fun q : Nat => s.heap.size ≤ q) (zw zM adM cA S)) :
    ∀ (n i : Nat) (x3 : Int32), i ≤ L → L + 6 ≤ i + n → x3 = nI i → ∀ (SC SM : Zs), I SC SM → ∀ (H : Heap) (locs : List Loc), va_P D zcl (zw zC adC cA SC) H → va_P D zcl (zw zM adM cA SM) H → va_S (fun q : Nat => s.heap.size ≤ q) s.heap H locs → ∀ (ls : Array Slot), lv_has ls 4 [(0, .ref b), (1, .ref (adC 0)), (2, .ref (adM 0)), (3, .int x3)] → W p l e room_1 s m #[Value.ref b] below meth c H locs 200 3000 (lw_Z below #[Value.ref b] s) (F0 m 18 ls []) := by
  have hx := CC.1
  have hb := CC.2.1
  obtain ⟨-, -, hr, -, -, -, hX, hbl, hlocks, -⟩ := id C0
  have hbA : ¬ (fun q : Nat => s.heap.size ≤ q) b := Nat.not_le.mpr hbl
  intro n
  induction n with
  | zero =>
    intro i x3 h1 h2
    exact absurd h2 (by omega)
  | succ n ih =>
    intro i x3 hi hin ex3 SC SM hI H locs hPC hPM hS ls hl
    refine lv_iload_n hx hb dL_law_18 rfl (lv_at hl 3 rfl) ?_
    refine lv_aload_n hx hb dL_law_19 rfl (lv_at hl 0 rfl) ?_
    refine va_slen hx hb hX hbl hbA hS dL_law_20 ?_
    refine lv_bipush (v := 6) hx hb dL_law_21 (by decide) ?_
    refine lv_isub hx hb dL_law_23 ?_
    refine lv_icmp_gt (tgt := 1011) hx hb dL_law_24 (by decide) (fun c_10 => ?_) (fun c_10 => ?_)
    · refine lv_iconst (v := 1) hx hb dL_law_1011 (by decide) ?_
      refine va_forget (fun q hq => hS.2.2 q hq) ?_
      refine W.widen (k := 600000) (n := 7302249) (by decide) (by decide) ?_
      exact lw_ret hx hb hr hlocks dL_law_1012
    have h6 : i + 6 ≤ L := lw_six hi hL ex3 c_10
    have hj0 : vp_in (x3) L := by rw [ex3]; exact lw_in0 (by omega) hL
    refine lv_aload_n hx hb dL_law_27 rfl (lv_at hl 0 rfl) ?_
    refine lv_iload_n hx hb dL_law_28 rfl (lv_at hl 3 rfl) ?_
    refine va_sld hx hb hX hbl hbA hS hj0 dL_law_29 ?_
    refine lv_bipush (v := 31) hx hb dL_law_30 (by decide) ?_
    refine lv_iand hx hb dL_law_32 ?_
    generalize hop : xs x3.toNatClampNeg &&& 31 = op
    by_cases c0 : op = 0
    · refine lv_tableIn (off := 115) (tgt := 148) hx hb dL_law_33 (by rw [c0]; decide) (by rw [c0]; decide) (by rw [c0]; decide) (by decide) ?_
      exact law_c0 hsim hL C0 F CC CM DC DM hi hin ex3 h6 hI hPC hPM hS hl ih
    by_cases c1 : op = 1
    · refine lv_tableIn (off := 159) (tgt := 192) hx hb dL_law_33 (by rw [c1]; decide) (by rw [c1]; decide) (by rw [c1]; decide) (by decide) ?_
      exact law_c1 hsim hL C0 F CC CM DC DM hi hin ex3 h6 hI hPC hPM hS hl ih
    by_cases c2 : op = 2
    · refine lv_tableIn (off := 203) (tgt := 236) hx hb dL_law_33 (by rw [c2]; decide) (by rw [c2]; decide) (by rw [c2]; decide) (by decide) ?_
      exact law_c2 hsim hL C0 F CC CM DC DM hi hin ex3 h6 hI hPC hPM hS hl ih
    by_cases c3 : op = 3
    · refine lv_tableIn (off := 267) (tgt := 300) hx hb dL_law_33 (by rw [c3]; decide) (by rw [c3]; decide) (by rw [c3]; decide) (by decide) ?_
      exact law_c3 hsim hL C0 F CC CM DC DM hi hin ex3 h6 hI hPC hPM hS hl ih
    by_cases c4 : op = 4
    · refine lv_tableIn (off := 291) (tgt := 324) hx hb dL_law_33 (by rw [c4]; decide) (by rw [c4]; decide) (by rw [c4]; decide) (by decide) ?_
      exact law_c4 hsim hL C0 F CC CM DC DM hi hin ex3 h6 hI hPC hPM hS hl ih
    by_cases c5 : op = 5
    · refine lv_tableIn (off := 355) (tgt := 388) hx hb dL_law_33 (by rw [c5]; decide) (by rw [c5]; decide) (by rw [c5]; decide) (by decide) ?_
      exact law_c5 hsim hL C0 F CC CM DC DM hi hin ex3 h6 hI hPC hPM hS hl ih
    by_cases c6 : op = 6
    · refine lv_tableIn (off := 369) (tgt := 402) hx hb dL_law_33 (by rw [c6]; decide) (by rw [c6]; decide) (by rw [c6]; decide) (by decide) ?_
      exact law_c6 hsim hL C0 F CC CM DC DM hi hin ex3 h6 hI hPC hPM hS hl ih
    by_cases c7 : op = 7
    · refine lv_tableIn (off := 382) (tgt := 415) hx hb dL_law_33 (by rw [c7]; decide) (by rw [c7]; decide) (by rw [c7]; decide) (by decide) ?_
      exact law_c7 hsim hL C0 F CC CM DC DM hi hin ex3 h6 hI hPC hPM hS hl ih
    by_cases c8 : op = 8
    · refine lv_tableIn (off := 426) (tgt := 459) hx hb dL_law_33 (by rw [c8]; decide) (by rw [c8]; decide) (by rw [c8]; decide) (by decide) ?_
      exact law_c8 hsim hL C0 F CC CM DC DM hi hin ex3 h6 hI hPC hPM hS hl ih
    by_cases c9 : op = 9
    · refine lv_tableIn (off := 460) (tgt := 493) hx hb dL_law_33 (by rw [c9]; decide) (by rw [c9]; decide) (by rw [c9]; decide) (by decide) ?_
      exact law_c9 hsim hL C0 F CC CM DC DM hi hin ex3 h6 hI hPC hPM hS hl ih
    by_cases c10 : op = 10
    · refine lv_tableIn (off := 494) (tgt := 527) hx hb dL_law_33 (by rw [c10]; decide) (by rw [c10]; decide) (by rw [c10]; decide) (by decide) ?_
      exact law_c10 hsim hL C0 F CC CM DC DM hi hin ex3 h6 hI hPC hPM hS hl ih
    by_cases c11 : op = 11
    · refine lv_tableIn (off := 538) (tgt := 571) hx hb dL_law_33 (by rw [c11]; decide) (by rw [c11]; decide) (by rw [c11]; decide) (by decide) ?_
      exact law_c11 hsim hL C0 F CC CM DC DM hi hin ex3 h6 hI hPC hPM hS hl ih
    by_cases c12 : op = 12
    · refine lv_tableIn (off := 572) (tgt := 605) hx hb dL_law_33 (by rw [c12]; decide) (by rw [c12]; decide) (by rw [c12]; decide) (by decide) ?_
      exact law_c12 hsim hL C0 F CC CM DC DM hi hin ex3 h6 hI hPC hPM hS hl ih
    by_cases c13 : op = 13
    · refine lv_tableIn (off := 616) (tgt := 649) hx hb dL_law_33 (by rw [c13]; decide) (by rw [c13]; decide) (by rw [c13]; decide) (by decide) ?_
      exact law_c13 hsim hL C0 F CC CM DC DM hi hin ex3 h6 hI hPC hPM hS hl ih
    by_cases c14 : op = 14
    · refine lv_tableIn (off := 650) (tgt := 683) hx hb dL_law_33 (by rw [c14]; decide) (by rw [c14]; decide) (by rw [c14]; decide) (by decide) ?_
      exact law_c14 hsim hL C0 F CC CM DC DM hi hin ex3 h6 hI hPC hPM hS hl ih
    by_cases c15 : op = 15
    · refine lv_tableIn (off := 694) (tgt := 727) hx hb dL_law_33 (by rw [c15]; decide) (by rw [c15]; decide) (by rw [c15]; decide) (by decide) ?_
      exact law_c15 hsim hL C0 F CC CM DC DM hi hin ex3 h6 hI hPC hPM hS hl ih
    by_cases c16 : op = 16
    · refine lv_tableIn (off := 738) (tgt := 771) hx hb dL_law_33 (by rw [c16]; decide) (by rw [c16]; decide) (by rw [c16]; decide) (by decide) ?_
      exact law_c16 hsim hL C0 F CC CM DC DM hi hin ex3 h6 hI hPC hPM hS hl ih
    by_cases c17 : op = 17
    · refine lv_tableIn (off := 762) (tgt := 795) hx hb dL_law_33 (by rw [c17]; decide) (by rw [c17]; decide) (by rw [c17]; decide) (by decide) ?_
      exact law_c17 hsim hL C0 F CC CM DC DM hi hin ex3 h6 hI hPC hPM hS hl ih
    by_cases c18 : op = 18
    · refine lv_tableIn (off := 796) (tgt := 829) hx hb dL_law_33 (by rw [c18]; decide) (by rw [c18]; decide) (by rw [c18]; decide) (by decide) ?_
      exact law_c18 hsim hL C0 F CC CM DC DM hi hin ex3 h6 hI hPC hPM hS hl ih
    by_cases c19 : op = 19
    · refine lv_tableIn (off := 820) (tgt := 853) hx hb dL_law_33 (by rw [c19]; decide) (by rw [c19]; decide) (by rw [c19]; decide) (by decide) ?_
      exact law_c19 hsim hL C0 F CC CM DC DM hi hin ex3 h6 hI hPC hPM hS hl ih
    by_cases c20 : op = 20
    · refine lv_tableIn (off := 844) (tgt := 877) hx hb dL_law_33 (by rw [c20]; decide) (by rw [c20]; decide) (by rw [c20]; decide) (by decide) ?_
      exact law_c20 hsim hL C0 F CC CM DC DM hi hin ex3 h6 hI hPC hPM hS hl ih
    by_cases c21 : op = 21
    · refine lv_tableIn (off := 878) (tgt := 911) hx hb dL_law_33 (by rw [c21]; decide) (by rw [c21]; decide) (by rw [c21]; decide) (by decide) ?_
      exact law_c21 hsim hL C0 F CC CM DC DM hi hin ex3 h6 hI hPC hPM hS hl ih
    by_cases c22 : op = 22
    · refine lv_tableIn (off := 912) (tgt := 945) hx hb dL_law_33 (by rw [c22]; decide) (by rw [c22]; decide) (by rw [c22]; decide) (by decide) ?_
      exact law_c22 hsim hL C0 F CC CM DC DM hi hin ex3 h6 hI hPC hPM hS hl ih
    by_cases c23 : op = 23
    · refine lv_tableIn (off := 935) (tgt := 968) hx hb dL_law_33 (by rw [c23]; decide) (by rw [c23]; decide) (by rw [c23]; decide) (by decide) ?_
      exact law_c23 hsim hL C0 F CC CM DC DM hi hin ex3 h6 hI hPC hPM hS hl ih
    by_cases c24 : op = 24
    · refine lv_tableIn (off := 959) (tgt := 992) hx hb dL_law_33 (by rw [c24]; decide) (by rw [c24]; decide) (by rw [c24]; decide) (by decide) ?_
      exact law_c24 hsim hL C0 F CC CM DC DM hi hin ex3 h6 hI hPC hPM hS hl ih
    have q0 : ¬ op.toInt = 0 := zne c0 (by decide)
    have q1 : ¬ op.toInt = 1 := zne c1 (by decide)
    have q2 : ¬ op.toInt = 2 := zne c2 (by decide)
    have q3 : ¬ op.toInt = 3 := zne c3 (by decide)
    have q4 : ¬ op.toInt = 4 := zne c4 (by decide)
    have q5 : ¬ op.toInt = 5 := zne c5 (by decide)
    have q6 : ¬ op.toInt = 6 := zne c6 (by decide)
    have q7 : ¬ op.toInt = 7 := zne c7 (by decide)
    have q8 : ¬ op.toInt = 8 := zne c8 (by decide)
    have q9 : ¬ op.toInt = 9 := zne c9 (by decide)
    have q10 : ¬ op.toInt = 10 := zne c10 (by decide)
    have q11 : ¬ op.toInt = 11 := zne c11 (by decide)
    have q12 : ¬ op.toInt = 12 := zne c12 (by decide)
    have q13 : ¬ op.toInt = 13 := zne c13 (by decide)
    have q14 : ¬ op.toInt = 14 := zne c14 (by decide)
    have q15 : ¬ op.toInt = 15 := zne c15 (by decide)
    have q16 : ¬ op.toInt = 16 := zne c16 (by decide)
    have q17 : ¬ op.toInt = 17 := zne c17 (by decide)
    have q18 : ¬ op.toInt = 18 := zne c18 (by decide)
    have q19 : ¬ op.toInt = 19 := zne c19 (by decide)
    have q20 : ¬ op.toInt = 20 := zne c20 (by decide)
    have q21 : ¬ op.toInt = 21 := zne c21 (by decide)
    have q22 : ¬ op.toInt = 22 := zne c22 (by decide)
    have q23 : ¬ op.toInt = 23 := zne c23 (by decide)
    have q24 : ¬ op.toInt = 24 := zne c24 (by decide)
    refine lv_tableOut (tgt := 1005) hx hb dL_law_33 (show op.toInt < 0 ∨ 24 < op.toInt by omega) (by decide) ?_
    refine lv_iinc (v := x3 + 6) (lv' := [(3, .int (x3 + 6)), (0, .ref b), (1, .ref (adC 0)), (2, .ref (adM 0))]) hx hb dL_law_1005 hl (k := 3) rfl rfl (by decide) rfl (fun ls hl => ?_)
    refine lv_goto (tgt := 18) hx hb dL_law_1008 (by decide) ?_
    exact ih (i + 6) (x3 + 6) h6 (by omega) (by rw [ex3]; exact lw_six6 i) _ _ hI _ _ hPC hPM hS ls (lv_sub hl [1, 2, 3, 0] rfl)
