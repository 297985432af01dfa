/-! the reference's sets: all lands, or two of them -/
theorem nzT_iff {m : Nat} {A : Nat → Nat → Nat} {W : Nat → Nat} {t u q : Nat} : ¬ (mkT m A W t q &&& u = 0) ↔ ∃ l, l < m ∧ u.testBit l = true ∧ t.testBit l = true ∧ ∀ k, k < m → t.testBit k = true → W l * A l q ≤ W k * A k q := by
  rw [and_zero]
  constructor
  · intro h
    by_cases c : ∃ l, l < m ∧ u.testBit l = true ∧ t.testBit l = true ∧ ∀ k, k < m → t.testBit k = true → W l * A l q ≤ W k * A k q
    · exact c
    · exact absurd (fun i ⟨h1, h2⟩ => c ⟨i, (mkT_bit.mp h1).1, h2, (mkT_bit.mp h1).2⟩) h
  · rintro ⟨l, h1, h2, h3⟩ h
    exact h l ⟨mkT_bit.mpr ⟨h1, h3⟩, h2⟩
theorem gts_ifT {m g : Nat} {A : Nat → Nat → Nat} {Sh W : Nat → Nat} {t u : Nat} {B : Nat → Prop} [∀ q, Decidable (B q)] (h : ∀ q, q < g → (¬ (mkT m A W t q &&& u = 0) ↔ B q)) : gtsN g (mkT m A W t) Sh u = ns g (fun q => if B q then Sh q else 0) := by
  unfold gtsN
  refine ns_congr (fun q hq => ?_)
  by_cases c : mkT m A W t q &&& u = 0
  · rw [if_pos c, if_neg (fun k => (h q hq).mpr k c)]
  · rw [if_neg c, if_pos ((h q hq).mp c)]
theorem mkT_full {m : Nat} (hm : 1 ≤ m ∧ m ≤ 3) {A : Nat → Nat → Nat} {W : Nat → Nat} {q : Nat} : mkT m A W (2 ^ m - 1) q = mkrs m A W q := by
  apply Nat.eq_of_testBit_eq
  intro l
  have e : (mkT m A W (2 ^ m - 1) q).testBit l = true ↔ (mkrs m A W q).testBit l = true := by
    rw [mkT_bit, mk_iff hm]
    constructor
    · rintro ⟨h1, -, h3⟩
      exact ⟨h1, fun k hk => h3 k hk (full_bit hm.2 hk)⟩
    · rintro ⟨h1, h2⟩
      exact ⟨h1, full_bit hm.2 h1, fun k hk _ => h2 k hk⟩
  cases h1 : (mkT m A W (2 ^ m - 1) q).testBit l <;> cases h2 : (mkrs m A W q).testBit l <;> simp_all
theorem lsT_full {m : Nat} (hm : 1 ≤ m ∧ m ≤ 3) {c : Nat → Nat} : lsT m c (2 ^ m - 1) = some (lst (m - 1) c) := by
  obtain ⟨v, hv⟩ := lsT_ex (n := m) (c := c) (t := 2 ^ m - 1) (show 0 < m by omega) (full_bit hm.2 (by omega))
  obtain ⟨⟨l, h1, h2, h3⟩, h4⟩ := lsT_some hv
  obtain ⟨i, hi, ei⟩ := lst_in (n := m - 1) (c := c)
  have x1 := lst_le (n := m - 1) (c := c) l (by omega)
  have x2 := h4 i (by omega) (full_bit hm.2 (by omega))
  rw [hv]
  congr 1
  omega
section LF
variable {m g : Nat} {A : Nat → Nat → Nat} {H Sh W : Nat → Nat}
theorem okS_full (hm : 1 ≤ m ∧ m ≤ 3) {u : Nat} : okS m g A H Sh W (2 ^ m - 1) u ↔ okN m g A H Sh W u := by
  unfold okS okN
  have : gtsN g (mkT m A W (2 ^ m - 1)) Sh u = gtsN g (mkrs m A W) Sh u := ns_congr (fun q _ => by rw [mkT_full hm])
  rw [this]
theorem subs_full (hm : 1 ≤ m ∧ m ≤ 3) {u : Nat} (h : u < 2 ^ m) : subs u (2 ^ m - 1) := by
  unfold subs
  rw [Nat.and_two_pow_sub_one_eq_mod, Nat.mod_eq_of_lt h]
theorem gd_full (hm : 1 ≤ m ∧ m ≤ 3) : gd m g A H Sh (2 ^ m - 1) W ↔ (∀ l, l < 3 → 1 ≤ W l) ∧ restN m g A H Sh W := by
  have hp : 1 ≤ 2 ^ m := Nat.one_le_two_pow
  constructor
  · rintro ⟨h1, h2⟩
    refine ⟨h1, fun l hl => h1 l (by omega), fun t ht => ?_⟩
    by_cases e : t = 0
    · rw [e]; exact okN_0
    · exact (okS_full hm).mp (h2 t (by omega) (by omega) (subs_full hm ht))
  · rintro ⟨h1, h2⟩
    exact ⟨h1, fun u u1 u2 _ => (okS_full hm).mpr (h2.2 u (by omega))⟩
theorem idle_full (hm : 1 ≤ m ∧ m ≤ 3) {r : Nat} (h : idleS m g A H Sh W (2 ^ m - 1) r) : idle m g A H Sh W r := by
  have hp : 1 ≤ 2 ^ m := Nat.one_le_two_pow
  rcases h with ⟨h1, h2⟩ | ⟨h1, h2, h3, h4, h5⟩
  · exact Or.inl ⟨h1, fun t t1 t2 => (okS_full hm).mp (h2 t t1 (by omega) (subs_full hm t2))⟩
  · exact Or.inr ⟨h1, by omega, fun k => h4 ((okS_full hm).mpr k), fun t t1 t2 => (okS_full hm).mp (h5 t t1 t2 (subs_full hm (by omega)))⟩
/-- two lands of m -/
def two (m a b : Nat) : Prop := m ≤ 3 ∧ a < b ∧ b < m
theorem two_bit0 : ∀ a, a < 3 → ∀ b, b < 3 → ∀ l, l < 3 → a < b → (((2 ^ a + 2 ^ b).testBit l = true ↔ l = a ∨ l = b) ∧ ((2 ^ a).testBit l = true ↔ l = a) ∧ ((2 ^ b).testBit l = true ↔ l = b)) := by
  intro a ha b hb l hl hab
  rcases (show (a = 0 ∧ b = 1) ∨ (a = 0 ∧ b = 2) ∨ (a = 1 ∧ b = 2) by omega) with ⟨rfl, rfl⟩ | ⟨rfl, rfl⟩ | ⟨rfl, rfl⟩ <;> rcases (show l = 0 ∨ l = 1 ∨ l = 2 by omega) with rfl | rfl | rfl <;> decide
theorem two_bit (a : Nat) (ha : a < 3) (b : Nat) (hb : b < 3) (hab : a < b) (l : Nat) (hl : l < 3) : (((2 ^ a + 2 ^ b).testBit l = true ↔ l = a ∨ l = b) ∧ ((2 ^ a).testBit l = true ↔ l = a) ∧ ((2 ^ b).testBit l = true ↔ l = b)) := two_bit0 a ha b hb l hl hab
theorem two_sub0 : ∀ a, a < 3 → ∀ b, b < 3 → ∀ u, u < 8 → a < b → 1 ≤ u → u &&& (2 ^ a + 2 ^ b) = u → u = 2 ^ a ∨ u = 2 ^ b ∨ u = 2 ^ a + 2 ^ b := by
  intro a ha b hb u hu hab
  rcases (show (a = 0 ∧ b = 1) ∨ (a = 0 ∧ b = 2) ∨ (a = 1 ∧ b = 2) by omega) with ⟨rfl, rfl⟩ | ⟨rfl, rfl⟩ | ⟨rfl, rfl⟩ <;> revert u <;> decide
theorem two_sub (a : Nat) (ha : a < 3) (b : Nat) (hb : b < 3) (hab : a < b) (u : Nat) (hu : u < 8) (h1 : 1 ≤ u) (h2 : u &&& (2 ^ a + 2 ^ b) = u) : u = 2 ^ a ∨ u = 2 ^ b ∨ u = 2 ^ a + 2 ^ b := two_sub0 a ha b hb u hu hab h1 h2
theorem two_sub2 : ∀ a, a < 3 → ∀ b, b < 3 → a < b → (2 ^ a &&& (2 ^ a + 2 ^ b) = 2 ^ a ∧ 2 ^ b &&& (2 ^ a + 2 ^ b) = 2 ^ b) := by decide +kernel
theorem two_lt : ∀ a, a < 3 → ∀ b, b < 3 → a < b → 2 ^ a + 2 ^ b < 8 := by decide +kernel
theorem ns_one {n k : Nat} {F : Nat → Nat} (hk : k < n) (h : ∀ l, l < n → l ≠ k → F l = 0) : ns n F = F k := by
  induction n with
  | zero => omega
  | succ n ih =>
    show ns n F + F n = F k
    by_cases e : k = n
    · have z : ns n F = ns n (fun _ => 0) := ns_congr (fun i hi => h i (by omega) (by omega))
      have z2 : ns n (fun _ => 0) = 0 := by
        have := ns_le (n := n) (b := 0) (f := fun _ => 0) (fun _ _ => Nat.le_refl _)
        omega
      rw [z, z2, e]
      omega
    · rw [ih (by omega) (fun l hl nl => h l (by omega) nl), h n (by omega) (by omega)]
      omega
variable {a b : Nat}
theorem inc_a (w : two m a b) : incN m H W (2 ^ a) = H a * W a := by
  obtain ⟨w1, w2, w3⟩ := w
  unfold incN
  rw [ns_one (k := a) (by omega) (fun l hl nl => if_neg (fun k => nl ((two_bit a (by omega) b (by omega) w2 l (by omega)).2.1.mp k)))]
  exact if_pos ((two_bit a (by omega) b (by omega) w2 a (by omega)).2.1.mpr rfl)
theorem inc_b (w : two m a b) : incN m H W (2 ^ b) = H b * W b := by
  obtain ⟨w1, w2, w3⟩ := w
  unfold incN
  rw [ns_one (k := b) (by omega) (fun l hl nl => if_neg (fun k => nl ((two_bit a (by omega) b (by omega) w2 l (by omega)).2.2.mp k)))]
  exact if_pos ((two_bit a (by omega) b (by omega) w2 b (by omega)).2.2.mpr rfl)
theorem inc_ab (w : two m a b) : incN m H W (2 ^ a + 2 ^ b) = H a * W a + H b * W b := by
  rw [← inc_a (H := H) (W := W) w, ← inc_b (H := H) (W := W) w]
  obtain ⟨w1, w2, w3⟩ := w
  unfold incN
  rw [← ns_add]
  refine ns_congr (fun l hl => ?_)
  obtain ⟨x1, x2, x3⟩ := two_bit a (by omega) b (by omega) w2 l (by omega)
  by_cases ca : l = a
  · rw [if_pos (x1.mpr (Or.inl ca)), if_pos (x2.mpr ca), if_neg (fun k => by have := x3.mp k; omega)]
    rfl
  · by_cases cb : l = b
    · rw [if_pos (x1.mpr (Or.inr cb)), if_pos (x3.mpr cb), if_neg (fun k => ca (x2.mp k)), Nat.zero_add]
    · rw [if_neg (fun k => by have := x1.mp k; omega), if_neg (fun k => ca (x2.mp k)), if_neg (fun k => cb (x3.mp k))]
theorem mk_a (w : two m a b) {q : Nat} : (mkT m A W (2 ^ a + 2 ^ b) q).testBit a = true ↔ A a q * W a ≤ A b q * W b := by
  obtain ⟨w1, w2, w3⟩ := w
  rw [mkT_bit, Nat.mul_comm (A a q), Nat.mul_comm (A b q)]
  constructor
  · rintro ⟨-, -, h⟩
    exact h b w3 ((two_bit a (by omega) b (by omega) w2 b (by omega)).1.mpr (Or.inr rfl))
  · intro h
    refine ⟨by omega, (two_bit a (by omega) b (by omega) w2 a (by omega)).1.mpr (Or.inl rfl), fun k hk tk => ?_⟩
    rcases (two_bit a (by omega) b (by omega) w2 k (by omega)).1.mp tk with rfl | rfl
    · exact Nat.le_refl _
    · exact h
theorem mk_b (w : two m a b) {q : Nat} : (mkT m A W (2 ^ a + 2 ^ b) q).testBit b = true ↔ A b q * W b ≤ A a q * W a := by
  obtain ⟨w1, w2, w3⟩ := w
  rw [mkT_bit, Nat.mul_comm (A a q), Nat.mul_comm (A b q)]
  constructor
  · rintro ⟨-, -, h⟩
    exact h a (by omega) ((two_bit a (by omega) b (by omega) w2 a (by omega)).1.mpr (Or.inl rfl))
  · intro h
    refine ⟨by omega, (two_bit a (by omega) b (by omega) w2 b (by omega)).1.mpr (Or.inr rfl), fun k hk tk => ?_⟩
    rcases (two_bit a (by omega) b (by omega) w2 k (by omega)).1.mp tk with rfl | rfl
    · exact h
    · exact Nat.le_refl _
theorem okS_ab (w : two m a b) : okS m g A H Sh W (2 ^ a + 2 ^ b) (2 ^ a + 2 ^ b) := by
  have w' := w
  obtain ⟨w1, w2, w3⟩ := w
  unfold okS
  have : gtsN g (mkT m A W (2 ^ a + 2 ^ b)) Sh (2 ^ a + 2 ^ b) = ns g Sh := by
    rw [gts_ifT (B := fun _ => True) (fun q hq => ⟨fun _ => trivial, fun _ => ?_⟩)]
    · exact ns_congr (fun q _ => if_pos trivial)
    · rw [nzT_iff]
      have ba := (two_bit a (by omega) b (by omega) w2 a (by omega)).1.mpr (Or.inl rfl)
      have bb := (two_bit a (by omega) b (by omega) w2 b (by omega)).1.mpr (Or.inr rfl)
      rcases Nat.le_total (A a q * W a) (A b q * W b) with h | h
      · have := mkT_bit.mp ((mk_a w').mpr h)
        exact ⟨a, by omega, ba, this.2⟩
      · have := mkT_bit.mp ((mk_b w').mpr h)
        exact ⟨b, by omega, bb, this.2⟩
  rw [this]
  exact Nat.le_refl _
theorem gd_two (w : two m a b) : gd m g A H Sh (2 ^ a + 2 ^ b) W ↔ (∀ l, l < 3 → 1 ≤ W l) ∧ prest g (fun q => A a q) (fun q => A b q) Sh (H a) (H b) (W a) (W b) := by
  have w' := w
  obtain ⟨w1, w2, w3⟩ := w
  have gA : gtsN g (mkT m A W (2 ^ a + 2 ^ b)) Sh (2 ^ a) = ns g (fun q => if A a q * W a ≤ A b q * W b then Sh q else 0) := gts_ifT (fun q hq => by
    rw [nzT_iff, ← mk_a (A := A) (W := W) w', mkT_bit]
    constructor
    · rintro ⟨l, h1, h2, h3⟩
      have := (two_bit a (by omega) b (by omega) w2 l (by omega)).2.1.mp h2
      subst this
      exact ⟨h1, h3⟩
    · rintro ⟨h1, h2⟩
      exact ⟨a, h1, (two_bit a (by omega) b (by omega) w2 a (by omega)).2.1.mpr rfl, h2⟩)
  have gB : gtsN g (mkT m A W (2 ^ a + 2 ^ b)) Sh (2 ^ b) = ns g (fun q => if A b q * W b ≤ A a q * W a then Sh q else 0) := gts_ifT (fun q hq => by
    rw [nzT_iff, ← mk_b (A := A) (W := W) w', mkT_bit]
    constructor
    · rintro ⟨l, h1, h2, h3⟩
      have := (two_bit a (by omega) b (by omega) w2 l (by omega)).2.2.mp h2
      subst this
      exact ⟨h1, h3⟩
    · rintro ⟨h1, h2⟩
      exact ⟨b, h1, (two_bit a (by omega) b (by omega) w2 b (by omega)).2.2.mpr rfl, h2⟩)
  have s2 := two_sub2 a (by omega) b (by omega) w2
  have p1 : 1 ≤ 2 ^ a := Nat.one_le_two_pow
  have p2 : 1 ≤ 2 ^ b := Nat.one_le_two_pow
  have oA : okS m g A H Sh W (2 ^ a + 2 ^ b) (2 ^ a) ↔ H a * W a * ns g Sh ≤ (H a * W a + H b * W b) * ns g (fun q => if A a q * W a ≤ A b q * W b then Sh q else 0) := by
    unfold okS
    rw [inc_a w', inc_ab w', gA]
  have oB : okS m g A H Sh W (2 ^ a + 2 ^ b) (2 ^ b) ↔ H b * W b * ns g Sh ≤ (H a * W a + H b * W b) * ns g (fun q => if A b q * W b ≤ A a q * W a then Sh q else 0) := by
    unfold okS
    rw [inc_b w', inc_ab w', gB]
  constructor
  · rintro ⟨h1, h2⟩
    exact ⟨h1, h1 a (by omega), h1 b (by omega), oA.mp (h2 _ p1 (by omega) s2.1), oB.mp (h2 _ p2 (by omega) s2.2)⟩
  · rintro ⟨h1, -, -, h4, h5⟩
    refine ⟨h1, fun u u1 u2 u3 => ?_⟩
    have := two_lt a (by omega) b (by omega) w2
    rcases two_sub a (by omega) b (by omega) w2 u (by omega) u1 u3 with rfl | rfl | rfl
    · exact oA.mpr h4
    · exact oB.mpr h5
    · exact okS_ab w'
/-- a rest of two lands, from all of a world of two -/
theorem rest_pair (h : restN 2 g A H Sh W) : prest g (fun q => A 0 q) (fun q => A 1 q) Sh (H 0) (H 1) (W 0) (W 1) := by
  have := (gd_full (m := 2) (g := g) (A := A) (H := H) (Sh := Sh) (W := fun l => if l < 2 then W l else 1) (by omega)).mpr ⟨fun l hl => by
    by_cases c : l < 2
    · rw [if_pos c]; exact h.1 l c
    · rw [if_neg c]; exact Nat.le_refl _, restN_of (by omega) h (Nat.le_refl 1) (Nat.le_refl 1) (fun l hl => by rw [if_pos hl]; exact h.1 l hl) (fun l hl => by rw [if_pos hl])⟩
  exact ((gd_two (m := 2) (a := 0) (b := 1) ⟨by omega, by omega, by omega⟩).mp this).2
end LF
section PP
variable {g : Nat} {f s Sh : Nat → Nat} {h1 h2 w1 w2 v1 v2 : Nat}
def selA (f s : Nat → Nat) : Nat → Nat → Nat := fun l q => if l = 0 then f q else s q
def selW (w1 w2 : Nat) : Nat → Nat := fun l => if l = 0 then w1 else w2
theorem prest_iff : prest g f s Sh h1 h2 w1 w2 ↔ restN 2 g (selA f s) (selW h1 h2) Sh (selW w1 w2) := ⟨fun h => pair_rest h, fun h => rest_pair h⟩
theorem prest_of (h : prest g f s Sh h1 h2 w1 w2) (p1 : 1 ≤ v1) (p2 : 1 ≤ v2) (e : v1 * w2 = v2 * w1) : prest g f s Sh h1 h2 v1 v2 := by
  rw [prest_iff] at h ⊢
  have q1 : 1 ≤ w1 := h.1 0 (by omega)
  refine restN_of (by omega) h q1 p1 (fun l hl => ?_) (fun l hl => ?_)
  · rcases (show l = 0 ∨ l = 1 by omega) with rfl | rfl
    · exact p1
    · exact p2
  · rcases (show l = 0 ∨ l = 1 by omega) with rfl | rfl
    · show w1 * v1 = v1 * w1
      exact Nat.mul_comm _ _
    · show w1 * v2 = v1 * w2
      rw [e, Nat.mul_comm]
theorem prest_one (hg : 1 ≤ g ∧ g ≤ 6) (hf : ∀ q, q < g → 1 ≤ f q ∧ f q ≤ 20) (hs : ∀ q, q < g → 1 ≤ s q ∧ s q ≤ 20) (hSh : ∀ q, q < g → 1 ≤ Sh q ∧ Sh q ≤ 20) (b1 : 1 ≤ h1 ∧ h1 ≤ 99) (b2 : 1 ≤ h2 ∧ h2 ≤ 99) (h : prest g f s Sh h1 h2 w1 w2) (k : prest g f s Sh h1 h2 v1 v2) : v1 * w2 = v2 * w1 := by
  rw [prest_iff] at h k
  have D : dat 2 g (selA f s) (selW h1 h2) Sh := ⟨by omega, hg, fun l hl => by
    rcases (show l = 0 ∨ l = 1 by omega) with rfl | rfl
    · exact b1
    · exact b2, hSh, fun l q hl hq => by
    rcases (show l = 0 ∨ l = 1 by omega) with rfl | rfl
    · exact hf q hq
    · exact hs q hq⟩
  exact restN_one D h k (l := 0) (k := 1) (by omega) (by omega)
end PP
