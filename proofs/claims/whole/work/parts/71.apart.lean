/-! no good with two makers; settle -/
section AP
variable {S : Zs} {o g : Nat} {A : Nat → Nat → Nat} {H Sh : Nat → Nat} {V : Nat → Rat}
def paid (g : Nat) (Sh : Nat → Nat) (wn : Nat → Nat → Nat) (l : Nat) : Nat := ns g (fun q => if wn l q = 2 then Sh q else 0)
theorem paid_le (D : dat 3 g A H Sh) {wn : Nat → Nat → Nat} {l : Nat} : paid g Sh wn l ≤ 120 := by
  have d2 := D.2.1
  have : paid g Sh wn l ≤ g * 20 := ns_le (fun q hq => by
    have := D.2.2.2.1 q hq
    split <;> omega)
  omega
theorem p1_settleApart (ho : 33 ≤ o) (D : dat 3 g A H Sh) (C : cW S o 3 g A H Sh) {wn : Nat → Nat → Nat} (hw : ∀ l q, l < 3 → q < g → S.1 (29 + l) q = nI (wn l q)) (hwb : ∀ l q, wn l q ≤ 10) : ∃ S', f1_settleApart o S = some S' ∧ rowL S S' (o + 7) ∧ cG S' (o + 7) 3 (fun l => paid g Sh wn l * (H 0 * H 1 * H 2 / H l)) := by
  have d2 := D.2.1
  have hb := D.2.2.1
  have b0 := hb 0 (by omega)
  have b1 := hb 1 (by omega)
  have b2 := hb 2 (by omega)
  have ab : H 0 * H 1 * H 2 ≤ 99 * 99 * 99 := Nat.mul_le_mul (Nat.mul_le_mul b0.2 b1.2) b2.2
  have inner : ∀ (k2 : Int64 → Int32 → Zs → Option Zs) l, l < 3 → ∀ n j (S1 : Zs), rowL S S1 (o + 7) → j ≤ g → g - j < n → f1_settleApart_39 o k2 n (lN (H 0 * H 1 * H 2)) (nI l) (lN (ns j (fun q => if wn l q = 2 then Sh q else 0))) (nI j) S1 = k2 (lN (H 0 * H 1 * H 2)) (nI (l + 1)) (zL S1 (o + 7) l (lN (paid g Sh wn l * (H 0 * H 1 * H 2 / H l)))) := by
    intro k2 l hl n
    induction n with
    | zero => intro j S1 _ _ h; omega
    | succ n ih =>
      intro j S1 hB hj hn
      have bl := hb l hl
      rw [f1_settleApart_39]
      dsimp only
      rw [hB.1, C.2.1]
      by_cases e : g ≤ j
      · rw [if_pos (nI_le e (by omega)), if_pos (inb_nI hl (by decide)), nI_clamp (show l < 2 ^ 31 by omega), C.2.2.2.1 l hl, if_neg (nI_nle (by omega) (by omega)), if_pos (inb_nI hl (by decide)), nI_l (by omega), if_neg (fun q => by have := (lN_0' (by omega)).mp q; omega), if_pos (inb_nI hl (by decide)), ltt]
        unfold f1_settleApart_111
        rw [ltt, show nI l + 1 = nI (l + 1) from nI_1 _, pk_lDiv (by omega) (by omega) (by omega), lN_mul, show j = g by omega]
        rfl
      · have bs := D.2.2.2.1 j (by omega)
        rw [if_neg (nI_ge (by omega) (by omega)), if_pos (inb_nI hl (by decide)), if_pos (inb_nI (by omega) (by decide)), nI_clamp (show l < 2 ^ 31 by omega), nI_clamp (show j < 2 ^ 31 by omega), hw l j hl (by omega)]
        have ih' := ih (j + 1) S1 hB (by omega) (by omega)
        have e1 : ns (j + 1) (fun q => if wn l q = 2 then Sh q else 0) = ns j (fun q => if wn l q = 2 then Sh q else 0) + (if wn l j = 2 then Sh j else 0) := rfl
        rw [e1] at ih'
        have wb := hwb l j
        rw [show (2 : Int32) = nI 2 from rfl]
        by_cases c : wn l j = 2
        · rw [if_pos c] at ih'
          rw [if_pos (by rw [c]), if_pos (inb_nI (by omega) (by decide)), ltt, C.2.2.1 j (by omega), nI_l (by omega), lN_add]
          unfold f1_settleApart_75
          rw [ltt, show nI j + 1 = nI (j + 1) from nI_1 _]
          exact ih'
        · rw [if_neg c] at ih'
          rw [if_neg (fun q => c ((nI_eq (by omega) (by omega)).mp q))]
          unfold f1_settleApart_75
          rw [ltt, show nI j + 1 = nI (j + 1) from nI_1 _]
          exact ih'
  have st : ∀ n l (S1 : Zs), l < 3 → rowL S S1 (o + 7) → f1_settleApart_27 o (n + 1) (lN (H 0 * H 1 * H 2)) (nI l) S1 = f1_settleApart_27 o n (lN (H 0 * H 1 * H 2)) (nI (l + 1)) (zL S1 (o + 7) l (lN (paid g Sh wn l * (H 0 * H 1 * H 2 / H l)))) := by
    intro n l S1 hl hB
    rw [f1_settleApart_27]
    dsimp only
    rw [show (3 : Int32) = nI 3 from rfl, if_neg (nI_ge hl (by decide))]
    exact inner (f1_settleApart_27 o n) l hl fuel0 0 S1 hB (by omega) (by unfold fuel0; omega)
  have q1 : rowL S (zL S (o + 7) 0 (lN (paid g Sh wn 0 * (H 0 * H 1 * H 2 / H 0)))) (o + 7) := rowL.put
  have q2 := q1.tr (rowL.put (k := o + 7) (j := 1) (v := lN (paid g Sh wn 1 * (H 0 * H 1 * H 2 / H 1))))
  have q3 := q2.tr (rowL.put (k := o + 7) (j := 2) (v := lN (paid g Sh wn 2 * (H 0 * H 1 * H 2 / H 2))))
  refine ⟨_, ?_, q3, ?_⟩
  · unfold f1_settleApart
    rw [if_pos (by decide), if_pos (by decide), if_pos (by decide), show (0 : Int32).toNatClampNeg = 0 by decide, show (1 : Int32).toNatClampNeg = 1 by decide, show (2 : Int32).toNatClampNeg = 2 by decide, C.2.2.2.1 0 (by omega), C.2.2.2.1 1 (by omega), C.2.2.2.1 2 (by omega), nI_l (show H 0 < 2 ^ 31 by omega), nI_l (show H 1 < 2 ^ 31 by omega), nI_l (show H 2 < 2 ^ 31 by omega), lN_mul, lN_mul, ltt, show fuel0 = 996 + 1 + 1 + 1 + 1 from rfl, show (0 : Int32) = nI 0 from rfl, st _ 0 S (by omega) rowL.rf, st _ 1 _ (by omega) q1, st _ 2 _ (by omega) q2]
    rw [f1_settleApart_27]
    dsimp only
    exact if_pos (by decide)
  · intro l hl
    have db : ∀ l, l < 3 → H 0 * H 1 * H 2 / H l ≤ 9801 := by
      intro l hl
      have bl := hb l hl
      have m1 : H 0 * H 1 ≤ 99 * 99 := Nat.mul_le_mul b0.2 b1.2
      have m2 : H 0 * H 2 ≤ 99 * 99 := Nat.mul_le_mul b0.2 b2.2
      have m3 : H 1 * H 2 ≤ 99 * 99 := Nat.mul_le_mul b1.2 b2.2
      rcases (show l = 0 ∨ l = 1 ∨ l = 2 by omega) with rfl | rfl | rfl
      · rw [show H 0 * H 1 * H 2 = H 1 * H 2 * H 0 by grind, Nat.mul_div_cancel _ (by omega)]; omega
      · rw [show H 0 * H 1 * H 2 = H 0 * H 2 * H 1 by grind, Nat.mul_div_cancel _ (by omega)]; omega
      · rw [Nat.mul_div_cancel _ (by omega)]; omega
    have mb : paid g Sh wn l * (H 0 * H 1 * H 2 / H l) ≤ 120 * 9801 := Nat.mul_le_mul (paid_le D) (db l hl)
    refine ⟨?_, by dsimp only; omega⟩
    rw [zL_rd, zL_rd, zL_rd]
    rcases (show l = 0 ∨ l = 1 ∨ l = 2 by omega) with rfl | rfl | rfl
    · rw [if_neg (fun q => by omega), if_neg (fun q => by omega), if_pos ⟨rfl, rfl⟩]
    · rw [if_neg (fun q => by omega), if_pos ⟨rfl, rfl⟩]
    · rw [if_pos ⟨rfl, rfl⟩]
/-- where no good has two makers, each land's income is just what its goods get -/
theorem apart_eq (D : dat 3 g A H Sh) (hV : ∀ l, l < 3 → 0 < V l) (rV : rest 3 g (q2 A) (q1 H) (q1 Sh) V) (ap : ∀ a b q, a < 3 → b < 3 → a ≠ b → q < g → btr A V a b q ∨ btr A V b a q) {l : Nat} (hl : l < 3) {P : Nat → Nat} (hP : P l = ns g (fun q => if mkr 3 (q2 A) V q l = true then Sh q else 0)) : q1 H l * V l * qs g (q1 Sh) = inc 3 (q1 H) V (fun _ => true) * (P l : Rat) := by
  have o1 := rV (fun k => decide (k = l))
  have o2 := rV (fun k => !(fun k => decide (k = l)) k)
  have sp := inc_split (m := 3) (h := q1 H) (w := V) (fun k => decide (k = l))
  have il : inc 3 (q1 H) V (fun k => decide (k = l)) = q1 H l * V l := by
    unfold inc
    rw [show (fun k => bq (decide (k = l)) (q1 H k * V k)) = fun k => (if k = l then q1 H l else 0) * V k from funext fun k => by
      by_cases c : k = l
      · subst c; simp [bq]
      · simp [bq, c]]
    exact qs_one hl
  have hh : ∀ q, q < g → hit 3 (q2 A) V (fun k => decide (k = l)) q = mkr 3 (q2 A) V q l := by
    intro q hq
    have e : hit 3 (q2 A) V (fun k => decide (k = l)) q = true ↔ mkr 3 (q2 A) V q l = true := by
      rw [hit_iff]
      constructor
      · rintro ⟨k, h1, h2, h3⟩
        have : k = l := by simpa using h2
        rw [← this]; exact h3
      · intro h
        exact ⟨l, hl, by simp, h⟩
    cases h1 : hit 3 (q2 A) V (fun k => decide (k = l)) q <;> cases h2 : mkr 3 (q2 A) V q l <;> simp_all
  have gl : gts 3 g (q2 A) (q1 Sh) V (fun k => decide (k = l)) = (P l : Rat) := by
    unfold gts
    rw [hP, ← qs_ns]
    refine qs_congr (fun q hq => ?_)
    rw [hh q hq]
    cases mkr 3 (q2 A) V q l <;> simp [bq, q1]
  have gc : gts 3 g (q2 A) (q1 Sh) V (fun k => !(fun k => decide (k = l)) k) + (P l : Rat) ≤ qs g (q1 Sh) := by
    rw [← gl]
    unfold gts
    rw [← qs_add]
    refine qs_le (fun q hq => ?_)
    have hs : (0 : Rat) < q1 Sh q := qc_pos (D.2.2.2.1 q hq).1
    rw [hh q hq]
    cases h1 : mkr 3 (q2 A) V q l with
    | false => cases hit 3 (q2 A) V (fun k => !(fun k => decide (k = l)) k) q <;> simp [bq] <;> grind
    | true =>
      have h2 : hit 3 (q2 A) V (fun k => !(fun k => decide (k = l)) k) q = false := by
        cases h2 : hit 3 (q2 A) V (fun k => !(fun k => decide (k = l)) k) q with
        | false => rfl
        | true =>
          exfalso
          obtain ⟨k, hk, k1, k2⟩ := hit_iff.mp h2
          have nk : k ≠ l := by simpa using k1
          have e1 := mkr_iff.mp h1 k hk
          have e2 := mkr_iff.mp k2 l hl
          rcases ap k l q hk hl nk hq with z | z <;> unfold btr at z <;> grind
      rw [h2]
      simp [bq]
      grind
  have y : 0 < inc 3 (q1 H) V (fun _ => true) := inc_pos (fun l hl => qc_pos (D.2.2.1 l hl).1) hV hl rfl
  unfold okT at o1 o2
  rw [il, gl] at o1
  rw [il] at sp
  generalize inc 3 (q1 H) V (fun k => !(fun k => decide (k = l)) k) = iC at *
  generalize gts 3 g (q2 A) (q1 Sh) V (fun k => !(fun k => decide (k = l)) k) = gC at *
  generalize inc 3 (q1 H) V (fun _ => true) = Y at *
  generalize qs g (q1 Sh) = s at *
  have a1 : 0 ≤ Y * (s - (gC + (P l : Rat))) := Rat.mul_nonneg (Rat.le_of_lt y) (by grind)
  have a2 : s * Y = s * (q1 H l * V l + iC) := by rw [sp]
  grind
theorem apart_rest (D : dat 3 g A H Sh) (hV : ∀ l, l < 3 → 0 < V l) (rV : rest 3 g (q2 A) (q1 H) (q1 Sh) V) (ap : ∀ a b q, a < 3 → b < 3 → a ≠ b → q < g → btr A V a b q ∨ btr A V b a q) {P : Nat → Nat} (hP : ∀ l, l < 3 → P l = ns g (fun q => if mkr 3 (q2 A) V q l = true then Sh q else 0)) : restN 3 g A H Sh (fun l => P l * (H 0 * H 1 * H 2 / H l)) := by
  have hm : 1 ≤ 3 ∧ 3 ≤ 3 := by omega
  have hb := D.2.2.1
  have dvd : ∀ l, l < 3 → H l ∣ H 0 * H 1 * H 2 := by
    intro l hl
    rcases (show l = 0 ∨ l = 1 ∨ l = 2 by omega) with rfl | rfl | rfl
    · exact ⟨H 1 * H 2, by grind⟩
    · exact ⟨H 0 * H 2, by grind⟩
    · exact ⟨H 0 * H 1, by grind⟩
  have eW : ∀ l, l < 3 → P l * (H 0 * H 1 * H 2 / H l) * H l = P l * (H 0 * H 1 * H 2) := by
    intro l hl
    rw [Nat.mul_assoc, Nat.div_mul_cancel (dvd l hl)]
  have y : 0 < inc 3 (q1 H) V (fun _ => true) := inc_pos (fun l hl => qc_pos (D.2.2.1 l hl).1) hV (show 0 < 3 by omega) rfl
  have hs := (posA_N D).s
  have pall : (0 : Rat) < ((H 0 * H 1 * H 2 : Nat) : Rat) := qc_pos (Nat.mul_pos (Nat.mul_pos (hb 0 (by omega)).1 (hb 1 (by omega)).1) (hb 2 (by omega)).1)
  have pr : ∀ l, l < 3 → ((P l * (H 0 * H 1 * H 2 / H l) : Nat) : Rat) = qs g (q1 Sh) * ((H 0 * H 1 * H 2 : Nat) : Rat) / inc 3 (q1 H) V (fun _ => true) * V l := by
    intro l hl
    have e1 := apart_eq D hV rV ap hl (hP l hl)
    have e2 : ((P l * (H 0 * H 1 * H 2 / H l) : Nat) : Rat) * (H l : Rat) = (P l : Rat) * ((H 0 * H 1 * H 2 : Nat) : Rat) := by rw [← qc_mul, ← qc_mul, eW l hl]
    have ph : (0 : Rat) < (H l : Rat) := qc_pos (hb l hl).1
    have e1 : (H l : Rat) * V l * qs g (q1 Sh) = inc 3 (q1 H) V (fun _ => true) * (P l : Rat) := e1
    generalize ((P l * (H 0 * H 1 * H 2 / H l) : Nat) : Rat) = w at *
    generalize ((H 0 * H 1 * H 2 : Nat) : Rat) = al at *
    generalize inc 3 (q1 H) V (fun _ => true) = Y at *
    generalize qs g (q1 Sh) = s at *
    generalize (H l : Rat) = h at *
    generalize (P l : Rat) = p at *
    have a1 : Y * w * h = s * al * V l * h := by grind
    have a2 : Y * w = s * al * V l := by
      have : h * (Y * w) = h * (s * al * V l) := by grind
      have k1 := q_cancel_le ph (show h * (Y * w) ≤ h * (s * al * V l) by rw [this]; exact Rat.le_refl)
      have k2 := q_cancel_le ph (show h * (s * al * V l) ≤ h * (Y * w) by rw [this]; exact Rat.le_refl)
      grind
    grind
  refine ⟨fun l hl => ?_, (rest_N hm).mpr (fun T => ?_)⟩
  · have p := pr l hl
    have : (0 : Rat) < ((P l * (H 0 * H 1 * H 2 / H l) : Nat) : Rat) := by
      rw [p]
      refine Rat.mul_pos ?_ (hV l hl)
      rw [Rat.div_def]
      exact Rat.mul_pos (Rat.mul_pos hs pall) (Rat.inv_pos.mpr y)
    exact (qc_lt (a := 0)).mp this
  · refine okT_prop (v := V) (c := qs g (q1 Sh) * ((H 0 * H 1 * H 2 : Nat) : Rat) / inc 3 (q1 H) V (fun _ => true)) ?_ pr (rV T)
    rw [Rat.div_def]
    exact Rat.mul_pos (Rat.mul_pos hs pall) (Rat.inv_pos.mpr y)
end AP
