/-! sums of naturals -/
def ns : Nat → (Nat → Nat) → Nat
  | 0, _ => 0
  | n + 1, f => ns n f + f n
theorem ns_congr {n : Nat} {f g : Nat → Nat} (h : ∀ i, i < n → f i = g i) : ns n f = ns n g := by
  induction n with
  | zero => rfl
  | succ n ih =>
    show ns n f + f n = ns n g + g n
    rw [ih (fun i hi => h i (by omega)), h n (by omega)]
theorem ns_le {n b : Nat} {f : Nat → Nat} (h : ∀ i, i < n → f i ≤ b) : ns n f ≤ n * b := by
  induction n with
  | zero => simp [ns]
  | succ n ih =>
    show ns n f + f n ≤ (n + 1) * b
    have h1 := ih (fun i hi => h i (by omega))
    have h2 := h n (by omega)
    rw [Nat.add_mul]
    omega
theorem bt_or : ∀ l, l < 3 → 1 ≤ l → ∀ b, b < 2 ^ l → nI b ||| ((1 : Int32) <<< (nI l &&& 31)) = nI (b + 2 ^ l) := by decide +kernel
theorem bt_or0 : ∀ l, l < 3 → (0 : Int32) ||| ((1 : Int32) <<< (nI l &&& 31)) = nI (2 ^ l) := by decide +kernel
theorem bt_at : ∀ t, t < 8 → ∀ l, l < 3 → (((nI t >>> (nI l &&& 31)) &&& (1 : Int32) = 0) ↔ t.testBit l = false) := by decide +kernel
theorem bt_and : ∀ b, b < 8 → ∀ t, t < 8 → ((nI b &&& nI t = 0) ↔ b &&& t = 0) := by decide +kernel
theorem bt_all : ∀ m, m ≤ 3 → ((1 : Int32) <<< (nI m &&& 31)) - (1 : Int32) = nI (2 ^ m - 1) := by decide +kernel
section P5b
variable {S : Zs} {o w m g : Nat} {A : Nat → Nat → Nat} {H Sh W : Nat → Nat}
/-- one step of makersBy: at land l the least so far and its bits -/
theorem p5_mk_step (D : dat m g A H Sh) (C : cW S o m g A H Sh) (G : cG S w m W) {q : Nat} (hq : q < g) {l p b : Nat} (hl : l < m) (hl1 : 1 ≤ l) (hb : b < 2 ^ l) (hp : p ≤ 200000000) (n : Nat) : f5_makersBy_14 o w S (n + 1) (nI q) (lN p) (nI b) (nI l) = f5_makersBy_14 o w S n (nI q) (lN (if W l * A l q < p then W l * A l q else p)) (nI (if W l * A l q < p then 2 ^ l else if W l * A l q = p then b + 2 ^ l else b)) (nI (l + 1)) := by
  have d1 := D.1
  have b1 := costb D G hl hq
  rw [f5_makersBy_14]
  dsimp only
  rw [C.1, if_neg (nI_ge hl (by omega)), p5_cost D C G hl hq, bd1s]
  by_cases c : W l * A l q < p
  · rw [if_neg (fun k => by have := (pk_lLE (by omega) (by omega)).mp k; omega), if_pos c, if_pos c]
    unfold f5_makersBy_46 f5_makersBy_62
    rw [if_pos rfl, ltt, bt_or0 l (by omega), ltt, show nI l + 1 = nI (l + 1) from nI_1 _]
  · rw [if_pos ((pk_lLE (by omega) (by omega)).mpr (by omega)), if_neg c, if_neg c]
    unfold f5_makersBy_46 f5_makersBy_62
    by_cases e : W l * A l q = p
    · rw [if_pos e, if_pos (by rw [e]), ltt, bt_or l (by omega) hl1 b hb, ltt, show nI l + 1 = nI (l + 1) from nI_1 _]
    · rw [if_neg e, if_neg (fun k => e ((pk_lEQ (by omega) (by omega)).mp k)), ltt, show nI l + 1 = nI (l + 1) from nI_1 _]
theorem p5_mk_end (D : dat m g A H Sh) (C : cW S o m g A H Sh) {x : Int32} {p : Int64} {b : Int32} (n : Nat) : f5_makersBy_14 o w S (n + 1) x p b (nI m) = some b := by
  have d1 := D.1
  rw [f5_makersBy_14]
  dsimp only
  rw [C.1, if_pos (nI_le (Nat.le_refl _) (by omega))]
theorem p5_makersBy (D : dat m g A H Sh) (C : cW S o m g A H Sh) (G : cG S w m W) {q : Nat} (hq : q < g) : f5_makersBy o w S (nI q) = some (nI (mkb m (fun l => W l * A l q))) := by
  have d1 := D.1
  unfold f5_makersBy
  rw [show (0 : Int32) = nI 0 from rfl, p5_cost D C G (by omega) hq, bd1s, show fuel0 = 997 + 1 + 1 + 1 from rfl, show (1 : Int32) = nI 1 from rfl]
  have c0 := costb D G (l := 0) (by omega) hq
  rcases (show m = 1 ∨ m = 2 ∨ m = 3 by omega) with e | e | e
  · rw [e] at D C ⊢
    rw [p5_mk_end D C]
    simp [mkb, lst]
  · have c1 := costb D G (l := 1) (by omega) hq
    rw [p5_mk_step D C G hq (l := 1) (by omega) (by omega) (by omega) c0]
    rw [e] at D C ⊢
    rw [p5_mk_end D C]
    simp only [mkb, lst]
    congr 1
    grind
  · have c1 := costb D G (l := 1) (by omega) hq
    have c2 := costb D G (l := 2) (by omega) hq
    rw [p5_mk_step D C G hq (l := 1) (by omega) (by omega) (by omega) c0]
    rw [p5_mk_step D C G hq (l := 2) (by omega) (by omega) (by split <;> (try split) <;> omega) (by split <;> omega)]
    rw [e] at D C ⊢
    rw [p5_mk_end D C]
    simp only [mkb, lst]
    congr 1
    grind
theorem p5_allShares (D : dat m g A H Sh) (C : cW S o m g A H Sh) : f5_allShares o S = some (nI (ns g Sh)) := by
  have d2 := D.2.1
  have key : ∀ n j, j ≤ g → g - j < n → f5_allShares_4 o S n (nI (ns j Sh)) (nI j) = some (nI (ns g Sh)) := by
    intro n
    induction n with
    | zero => intro j _ h; omega
    | succ n ih =>
      intro j hj h
      rw [f5_allShares_4]
      dsimp only
      rw [C.2.1]
      by_cases e : g ≤ j
      · rw [if_pos (nI_le e (by omega)), show j = g by omega]
      · rw [if_neg (nI_ge (by omega) (by omega)), if_pos (inb_nI (by omega) (by decide)), ltt, ltt, nI_clamp (by omega), C.2.2.1 j (by omega), nI_add, show nI j + 1 = nI (j + 1) from nI_1 _]
        exact ih (j + 1) (by omega) (by omega)
  exact key fuel0 0 (by omega) (by unfold fuel0; omega)
theorem p5_allLands (D : dat m g A H Sh) (C : cW S o m g A H Sh) : f5_allLands o S = nI (2 ^ m - 1) := by
  unfold f5_allLands
  rw [C.1]
  exact bt_all m D.1.2
def incN (m : Nat) (H W : Nat → Nat) (t : Nat) : Nat := ns m (fun l => if t.testBit l = true then H l * W l else 0)
theorem incN_le (D : dat m g A H Sh) (G : cG S w m W) {t : Nat} : incN m H W t ≤ 3000000000 := by
  have d1 := D.1
  have : ns m (fun l => if t.testBit l = true then H l * W l else 0) ≤ m * 990000000 := ns_le (fun l hl => by
    have b1 := D.2.2.1 l hl
    have b2 := (G l hl).2
    have : H l * W l ≤ 99 * 10000000 := Nat.mul_le_mul b1.2 b2
    split <;> omega)
  have k : m * 990000000 ≤ 3 * 990000000 := Nat.mul_le_mul_right _ d1.2
  unfold incN
  omega
theorem p5_incomeOf (D : dat m g A H Sh) (C : cW S o m g A H Sh) (G : cG S w m W) {t : Nat} (ht : t < 8) : f5_incomeOf o w S (nI t) = some (lN (incN m H W t)) := by
  have d1 := D.1
  have key : ∀ n j, j ≤ m → m - j < n → f5_incomeOf_5 o w S n (nI t) (lN (ns j (fun l => if t.testBit l = true then H l * W l else 0))) (nI j) = some (lN (incN m H W t)) := by
    intro n
    induction n with
    | zero => intro j _ h; omega
    | succ n ih =>
      intro j hj h
      rw [f5_incomeOf_5]
      dsimp only
      rw [C.1]
      by_cases e : m ≤ j
      · rw [if_pos (nI_le e (by omega)), show j = m by omega]
        rfl
      · rw [if_neg (nI_ge (by omega) (by omega))]
        unfold f5_incomeOf_39
        have b1 := D.2.2.1 j (by omega)
        by_cases c : t.testBit j = true
        · rw [if_neg (fun k => by have := (bt_at t ht j (by omega)).mp k; rw [c] at this; cases this), if_pos (inb_nI (by omega) (by decide)), if_pos (inb_nI (by omega) (by decide)), ltt, ltt, nI_clamp (by omega), C.2.2.2.1 j (by omega), (G j (by omega)).1, nI_l (by omega), lN_mul, lN_add, show nI j + 1 = nI (j + 1) from nI_1 _, ← ih (j + 1) (by omega) (by omega)]
          show _ = f5_incomeOf_5 o w S n (nI t) (lN (ns j (fun l => if t.testBit l = true then H l * W l else 0) + (if t.testBit j = true then H j * W j else 0))) _
          rw [if_pos c]
        · have c' : t.testBit j = false := by cases hh : t.testBit j <;> simp_all
          rw [if_pos ((bt_at t ht j (by omega)).mpr c'), ltt, show nI j + 1 = nI (j + 1) from nI_1 _, ← ih (j + 1) (by omega) (by omega)]
          show _ = f5_incomeOf_5 o w S n (nI t) (lN (ns j (fun l => if t.testBit l = true then H l * W l else 0) + (if t.testBit j = true then H j * W j else 0))) _
          rw [if_neg c]
          rfl
  exact key fuel0 0 (by omega) (by unfold fuel0; omega)
/-- what the goods get that have a maker in t; b q: the makers' bits -/
def gtsN (g : Nat) (b Sh : Nat → Nat) (t : Nat) : Nat := ns g (fun q => if b q &&& t = 0 then 0 else Sh q)
theorem gtsN_le (D : dat m g A H Sh) {b : Nat → Nat} {t : Nat} : gtsN g b Sh t ≤ 120 := by
  have d2 := D.2.1
  have : gtsN g b Sh t ≤ g * 20 := ns_le (fun q hq => by
    have := D.2.2.2.1 q hq
    split <;> omega)
  omega
theorem p5_sharesFor (D : dat m g A H Sh) (C : cW S o m g A H Sh) {b : Nat → Nat} (hb : ∀ q, q < g → S.1 (o + 8) q = nI (b q) ∧ b q < 8) {t : Nat} (ht : t < 8) : f5_sharesFor o S (nI t) = some (lN (gtsN g b Sh t)) := by
  have d2 := D.2.1
  have key : ∀ n j, j ≤ g → g - j < n → f5_sharesFor_5 o S n (nI t) (lN (ns j (fun q => if b q &&& t = 0 then 0 else Sh q))) (nI j) = some (lN (gtsN g b Sh t)) := by
    intro n
    induction n with
    | zero => intro j _ h; omega
    | succ n ih =>
      intro j hj h
      rw [f5_sharesFor_5]
      dsimp only
      rw [C.2.1]
      by_cases e : g ≤ j
      · rw [if_pos (nI_le e (by omega)), show j = g by omega]
        rfl
      · have b1 := D.2.2.2.1 j (by omega)
        obtain ⟨h1, h2⟩ := hb j (by omega)
        rw [if_neg (nI_ge (by omega) (by omega)), if_pos (inb_nI (by omega) (by decide)), nI_clamp (by omega), h1]
        unfold f5_sharesFor_37
        by_cases c : b j &&& t = 0
        · rw [if_pos ((bt_and _ h2 t ht).mpr c), ltt, show nI j + 1 = nI (j + 1) from nI_1 _, ← ih (j + 1) (by omega) (by omega)]
          show _ = f5_sharesFor_5 o S n (nI t) (lN (ns j (fun q => if b q &&& t = 0 then 0 else Sh q) + (if b j &&& t = 0 then 0 else Sh j))) _
          rw [if_pos c]
          rfl
        · rw [if_neg (fun k => c ((bt_and _ h2 t ht).mp k)), if_pos (inb_nI (by omega) (by decide)), ltt, ltt, C.2.2.1 j (by omega), nI_l (by omega), lN_add, show nI j + 1 = nI (j + 1) from nI_1 _, ← ih (j + 1) (by omega) (by omega)]
          show _ = f5_sharesFor_5 o S n (nI t) (lN (ns j (fun q => if b q &&& t = 0 then 0 else Sh q) + (if b j &&& t = 0 then 0 else Sh j))) _
          rw [if_neg c]
  exact key fuel0 0 (by omega) (by unfold fuel0; omega)
end P5b
