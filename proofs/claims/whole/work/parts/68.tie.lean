/-! two lands tied, beside the third -/
def perm3 (a b c : Nat) : Prop := (a = 0 ∧ b = 1 ∧ c = 2) ∨ (a = 0 ∧ b = 2 ∧ c = 1) ∨ (a = 1 ∧ b = 2 ∧ c = 0)
theorem perm3.lt {a b c : Nat} (p : perm3 a b c) : a < 3 ∧ b < 3 ∧ c < 3 ∧ a ≠ b ∧ a ≠ c ∧ b ≠ c ∧ ∀ l, l < 3 → l = a ∨ l = b ∨ l = c := by
  rcases p with ⟨rfl, rfl, rfl⟩ | ⟨rfl, rfl, rfl⟩ | ⟨rfl, rfl, rfl⟩ <;> exact ⟨by omega, by omega, by omega, by omega, by omega, by omega, fun l hl => by omega⟩
theorem perm3.sum {a b c : Nat} (p : perm3 a b c) (F : Nat → Nat) : ns 3 F = F a + F b + F c := by
  have e : ns 3 F = F 0 + F 1 + F 2 := by show 0 + F 0 + F 1 + F 2 = _; omega
  rw [e]
  rcases p with ⟨rfl, rfl, rfl⟩ | ⟨rfl, rfl, rfl⟩ | ⟨rfl, rfl, rfl⟩ <;> omega
theorem mk_iff {m : Nat} (hm : 1 ≤ m ∧ m ≤ 3) {A : Nat → Nat → Nat} {W : Nat → Nat} {q l : Nat} : (mkrs m A W q).testBit l = true ↔ l < m ∧ ∀ k, k < m → W l * A l q ≤ W k * A k q := by
  unfold mkrs
  rw [mkb_bit hm]
  constructor
  · rintro ⟨h1, h2⟩
    refine ⟨h1, fun k hk => ?_⟩
    have h2 : W l * A l q = lst (m - 1) (fun l => W l * A l q) := h2
    have := lst_le (n := m - 1) (c := fun l => W l * A l q) k (by omega)
    try dsimp only at this
    omega
  · rintro ⟨h1, h2⟩
    refine ⟨h1, ?_⟩
    obtain ⟨i, hi, ei⟩ := lst_in (n := m - 1) (c := fun l => W l * A l q)
    have h3 := lst_le (n := m - 1) (c := fun l => W l * A l q) l (by omega)
    have h4 := h2 i (by omega)
    try dsimp only at ei h3 ⊢
    omega
theorem nz_iff {m : Nat} (hm : 1 ≤ m ∧ m ≤ 3) {A : Nat → Nat → Nat} {W : Nat → Nat} {q t : Nat} : ¬ (mkrs m A W q &&& t = 0) ↔ ∃ l, l < m ∧ t.testBit l = true ∧ ∀ k, k < m → W l * A l q ≤ W k * A k q := by
  rw [and_zero]
  constructor
  · intro h
    by_cases c : ∃ l, l < m ∧ t.testBit l = true ∧ ∀ k, k < m → W l * A l q ≤ W k * A k q
    · exact c
    · exact absurd (fun i ⟨h1, h2⟩ => c ⟨i, ((mk_iff hm).mp h1).1, h2, ((mk_iff hm).mp h1).2⟩) h
  · rintro ⟨l, h1, h2, h3⟩ h
    exact h l ⟨(mk_iff hm).mpr ⟨h1, h3⟩, h2⟩
theorem gts_if {m g : Nat} {A : Nat → Nat → Nat} {Sh W : Nat → Nat} {t : Nat} {B : Nat → Prop} [∀ q, Decidable (B q)] (h : ∀ q, q < g → (¬ (mkrs m A W q &&& t = 0) ↔ B q)) : gtsN g (mkrs m A W) Sh t = ns g (fun q => if B q then Sh q else 0) := by
  unfold gtsN
  refine ns_congr (fun q hq => ?_)
  by_cases c : mkrs m A W q &&& t = 0
  · rw [if_pos c, if_neg (fun k => (h q hq).mpr k c)]
  · rw [if_neg c, if_pos ((h q hq).mp c)]
theorem okN_all {m g : Nat} (hm : 1 ≤ m ∧ m ≤ 3) {A : Nat → Nat → Nat} {H Sh W : Nat → Nat} {t : Nat} (ht : ∀ l, l < m → t.testBit l = true) : okN m g A H Sh W t := by
  rw [← ok_N hm (T := fun _ => true) (fun l hl => ht l hl)]
  unfold okT
  rw [gts_all (by omega)]
  exact Rat.le_refl
theorem okN_none {m g : Nat} {A : Nat → Nat → Nat} {H Sh W : Nat → Nat} {t : Nat} (ht : ∀ l, l < m → t.testBit l = false) : okN m g A H Sh W t := by
  unfold okN incN
  rw [show ns m (fun l => if t.testBit l = true then H l * W l else 0) = ns m (fun _ => 0) from ns_congr (fun l hl => by rw [ht l hl]; rfl)]
  have : ns m (fun _ => 0) = 0 := by
    have := ns_le (n := m) (b := 0) (f := fun _ => 0) (fun _ _ => Nat.le_refl _)
    omega
  rw [this, Nat.zero_mul]
  exact Nat.zero_le _
section TI
variable {g : Nat} {A : Nat → Nat → Nat} {H Sh W : Nat → Nat}
/-- a set that holds both of the tied ones, or neither, can be paid -/
theorem tie_ok {a b c : Nat} (p : perm3 a b c) {wA wB w1 w2 : Nat} (hp : prest g (fun q => if A b q * wB < A a q * wA then A b q * wB else A a q * wA) (fun q => A c q) Sh (H a * wA + H b * wB) (H c) w1 w2) (ea : W a = wA * w1) (eb : W b = wB * w1) (ec : W c = w2) {t : Nat} (ht : t.testBit a = t.testBit b) : okN 3 g A H Sh W t := by
  obtain ⟨la, lb, lc, nab, nac, nbc, h3⟩ := p.lt
  obtain ⟨p1, p2, p3, p4⟩ := hp
  have hm : 1 ≤ 3 ∧ 3 ≤ 3 := by omega
  have iAll : incN 3 H W (2 ^ 3 - 1) = (H a * wA + H b * wB) * w1 + H c * w2 := by
    unfold incN
    rw [p.sum]
    try dsimp only
    rw [if_pos (full_bit (by omega) la), if_pos (full_bit (by omega) lb), if_pos (full_bit (by omega) lc), ea, eb, ec]
    grind
  have mn : ∀ q, (if A b q * wB < A a q * wA then A b q * wB else A a q * wA) * w1 = if A b q * wB < A a q * wA then W b * A b q else W a * A a q := by
    intro q
    rw [ea, eb]
    split <;> grind
  have mn2 : ∀ q, (if A b q * wB < A a q * wA then A b q * wB else A a q * wA) * w1 ≤ W a * A a q ∧ (if A b q * wB < A a q * wA then A b q * wB else A a q * wA) * w1 ≤ W b * A b q := by
    intro q
    have ha : W a * A a q = A a q * wA * w1 := by rw [ea]; grind
    have hb : W b * A b q = A b q * wB * w1 := by rw [eb]; grind
    rw [ha, hb]
    constructor <;> refine Nat.mul_le_mul_right _ ?_ <;> split <;> omega
  cases t1 : t.testBit a <;> cases t2 : t.testBit c
  · exact okN_none (fun l hl => by rcases h3 l hl with rfl | rfl | rfl <;> first | exact t1 | exact t2 | exact ht.symm.trans t1)
  · have tb : t.testBit b = false := ht.symm.trans t1
    have e1 : incN 3 H W t = H c * w2 := by
      unfold incN
      rw [p.sum]
      try dsimp only
      rw [t1, t2, tb, if_neg (by decide), if_neg (by decide), if_pos rfl, ec]
      omega
    have e2 := gts_if (Sh := Sh) (m := 3) (g := g) (A := A) (W := W) (t := t) (B := fun q => A c q * w2 ≤ (if A b q * wB < A a q * wA then A b q * wB else A a q * wA) * w1) (fun q hq => by
      rw [nz_iff hm]
      constructor
      · rintro ⟨l, hl, tl, h⟩
        have : l = c := by
          rcases h3 l hl with rfl | rfl | rfl
          · rw [t1] at tl; cases tl
          · rw [tb] at tl; cases tl
          · rfl
        subst this
        have x1 := h a la
        have x2 := h b lb
        rw [mn q]
        rw [ec] at x1 x2
        rw [Nat.mul_comm (A l q)]
        split
        · exact x2
        · exact x1
      · intro h
        refine ⟨c, lc, t2, fun k hk => ?_⟩
        have x := mn2 q
        rw [Nat.mul_comm (A c q), ← ec] at h
        rcases h3 k hk with rfl | rfl | rfl
        · exact Nat.le_trans h x.1
        · exact Nat.le_trans h x.2
        · exact Nat.le_refl _)
    unfold okN
    rw [e1, e2, iAll]
    exact p4
  · have tb : t.testBit b = true := ht.symm.trans t1
    have e1 : incN 3 H W t = (H a * wA + H b * wB) * w1 := by
      unfold incN
      rw [p.sum]
      try dsimp only
      rw [t1, t2, tb, if_pos rfl, if_pos rfl, if_neg (by decide), ea, eb]
      grind
    have e2 := gts_if (Sh := Sh) (m := 3) (g := g) (A := A) (W := W) (t := t) (B := fun q => (if A b q * wB < A a q * wA then A b q * wB else A a q * wA) * w1 ≤ A c q * w2) (fun q hq => by
      rw [nz_iff hm]
      have x := mn2 q
      constructor
      · rintro ⟨l, hl, tl, h⟩
        have y := h c lc
        rw [Nat.mul_comm (A c q), ← ec]
        rcases h3 l hl with rfl | rfl | rfl
        · exact Nat.le_trans x.1 y
        · exact Nat.le_trans x.2 y
        · rw [t2] at tl; cases tl
      · intro h
        rw [Nat.mul_comm (A c q), ← ec] at h
        rw [mn q] at h x
        by_cases cc : A b q * wB < A a q * wA
        · rw [if_pos cc] at h x
          refine ⟨b, lb, tb, fun k hk => ?_⟩
          rcases h3 k hk with rfl | rfl | rfl
          · exact x.1
          · exact x.2
          · exact h
        · rw [if_neg cc] at h x
          refine ⟨a, la, t1, fun k hk => ?_⟩
          rcases h3 k hk with rfl | rfl | rfl
          · exact x.1
          · exact x.2
          · exact h)
    unfold okN
    rw [e1, e2, iAll]
    exact p3
  · exact okN_all hm (fun l hl => by rcases h3 l hl with rfl | rfl | rfl <;> first | exact t1 | exact t2 | exact ht.symm.trans t1)
end TI
/-- as before but for the Pair at 23 and the row at k -/
def frt (S S' : Zs) (k : Nat) : Prop := ∀ a, (a < 23 ∨ 28 ≤ a) → a ≠ k → S'.1 a = S.1 a ∧ S'.2 a = S.2 a
section P1
variable {S : Zs} {o g : Nat} {A : Nat → Nat → Nat} {H Sh : Nat → Nat}
theorem p1_tie (ho : 33 ≤ o) (D : dat 3 g A H Sh) (C : cW S o 3 g A H Sh) {a b c j : Nat} (p : perm3 a b c) (hj : j < g) : ∃ S' W, f1_tie o (nI a) (nI b) (nI j) S = some S' ∧ frt S S' (o + 7) ∧ S'.1 (o + 7) = S.1 (o + 7) ∧ cG S' (o + 7) 3 W ∧ (∀ l, l < 3 → 1 ≤ W l) ∧ W a * A a j = W b * A b j ∧ ∀ t, t.testBit a = t.testBit b → okN 3 g A H Sh W t := by
  obtain ⟨la, lb, lc, nab, nac, nbc, h3⟩ := p.lt
  have d2 := D.2.1
  have bA := D.2.2.2.2 a j la hj
  have bB := D.2.2.2.2 b j lb hj
  have ecc : ((3 : Int32) - nI a) - nI b = nI c := by
    rcases p with ⟨rfl, rfl, rfl⟩ | ⟨rfl, rfl, rfl⟩ | ⟨rfl, rfl, rfl⟩ <;> decide
  obtain ⟨S1, e1, o1, P1⟩ := p0_layTied (o := 23) D C (by omega) (wA := A b j) (wB := A a j) la lb lc bB bA
  obtain ⟨S2, od, e2, b2, or2, sr2⟩ := p0_sort P1
  have P2 := pD_but P1 b2 (by omega) (by omega)
  obtain ⟨w1, w2, e3, pr, k1, k2⟩ := p0_settleTwo P2 or2 sr2
  have x1 : A b j * w1 ≤ 20 * 11880 := Nat.mul_le_mul bB.2 k1
  have x2 : A a j * w1 ≤ 20 * 11880 := Nat.mul_le_mul bA.2 k1
  refine ⟨zL (zL (zL (zL (zL S2 23 7 (lN w1)) 23 8 (lN w2)) (o + 7) a (lN (A b j * w1))) (o + 7) b (lN (A a j * w1))) (o + 7) c (lN w2), fun l => if l = a then A b j * w1 else if l = b then A a j * w1 else w2, ?_, ?_, ?_, ?_, ?_, ?_, ?_⟩
  · unfold f1_tie
    rw [ltt, ecc, if_pos (inb_nI lb (by decide)), if_pos (inb_nI (by omega) (by decide)), nI_clamp (show a < 2 ^ 31 by omega), nI_clamp (show b < 2 ^ 31 by omega), nI_clamp (show c < 2 ^ 31 by omega), nI_clamp (show j < 2 ^ 31 by omega), ltt, C.2.2.2.2 b j lb hj, if_pos (inb_nI la (by decide)), if_pos (inb_nI (by omega) (by decide)), ltt, C.2.2.2.2 a j la hj, nI_l (by omega), nI_l (by omega), e1, bd1s, e2, bd1s, e3, bd1s, if_pos (inb_nI la (by decide)), ltt, if_pos (inb_nI lb (by decide)), ltt, if_pos (inb_nI lc (by decide)), ltt]
    have r1 : (zL (zL S2 23 7 (lN w1)) 23 8 (lN w2)).2 23 7 = lN w1 := by rw [zL_rd, if_neg (fun q => by omega), zL_rd, if_pos ⟨rfl, rfl⟩]
    rw [r1, lN_mul]
    have r2 : (zL (zL (zL S2 23 7 (lN w1)) 23 8 (lN w2)) (o + 7) a (lN (A b j * w1))).2 23 7 = lN w1 := by rw [zL_rd, if_neg (fun q => by omega)]; exact r1
    rw [r2, lN_mul]
    have r3 : (zL (zL (zL (zL S2 23 7 (lN w1)) 23 8 (lN w2)) (o + 7) a (lN (A b j * w1))) (o + 7) b (lN (A a j * w1))).2 23 8 = lN w2 := by rw [zL_rd, if_neg (fun q => by omega), zL_rd, if_neg (fun q => by omega), zL_rd, if_pos ⟨rfl, rfl⟩]
    rw [r3]
  · intro x hx hk
    have y1 := o1 x (by omega)
    have y2 : S2.1 x = S1.1 x ∧ S2.2 x = S1.2 x := ⟨funext fun z => b2.2 x z (by omega), by rw [b2.1]⟩
    refine ⟨y2.1.trans y1.1, ?_⟩
    rw [zL_2n _ _ _ hk, zL_2n _ _ _ hk, zL_2n _ _ _ hk, zL_2n _ _ _ (by omega), zL_2n _ _ _ (by omega), y2.2, y1.2]
  · have y1 := o1 (o + 7) (by omega)
    have y2 : S2.1 (o + 7) = S1.1 (o + 7) := funext fun z => b2.2 _ z (by omega)
    exact y2.trans y1.1
  · intro l hl
    try dsimp only
    rw [zL_rd, zL_rd, zL_rd]
    rcases h3 l hl with rfl | rfl | rfl
    · rw [if_neg (fun q => by omega), if_neg (fun q => by omega), if_pos ⟨rfl, rfl⟩, if_pos rfl]
      exact ⟨rfl, by omega⟩
    · rw [if_neg (fun q => by omega), if_pos ⟨rfl, rfl⟩, if_neg (by omega), if_pos rfl]
      exact ⟨rfl, by omega⟩
    · rw [if_pos ⟨rfl, rfl⟩, if_neg (by omega), if_neg (by omega)]
      exact ⟨rfl, by omega⟩
  · intro l hl
    try dsimp only
    have y1 : 1 ≤ A b j * w1 := Nat.mul_pos bB.1 pr.1
    have y2 : 1 ≤ A a j * w1 := Nat.mul_pos bA.1 pr.1
    have y3 := pr.2.1
    split
    · exact y1
    · split
      · exact y2
      · exact y3
  · dsimp only
    rw [if_pos rfl, if_neg (by omega), if_pos rfl]
    grind
  · intro t ht
    refine tie_ok p pr ?_ ?_ ?_ ht
    · try dsimp only
      rw [if_pos rfl]
    · try dsimp only
      rw [if_neg (by omega), if_pos rfl]
    · try dsimp only
      rw [if_neg (by omega), if_neg (by omega)]
end P1
