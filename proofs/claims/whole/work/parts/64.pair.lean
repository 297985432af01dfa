/-! TWO LANDS: the chain, and wages along it -/
/-- x stands ahead of y in the chain -/
def ahd (f s : Nat → Nat) (x y : Nat) : Prop := f x * s y < f y * s x ∨ (f x * s y = f y * s x ∧ x < y)
/-- the first k places of the chain -/
def srt (k : Nat) (f s od : Nat → Nat) : Prop := (∀ i, i < k → od i < k) ∧ (∀ i j, i < j → j < k → ahd f s (od i) (od j)) ∧ ∀ F : Nat → Nat, ns k (fun i => F (od i)) = ns k F
def insr (od : Nat → Nat) (k p : Nat) : Nat → Nat := fun i => if i < p then od i else if i = p then k else od (i - 1)
theorem ns_ins {od : Nat → Nat} {k p : Nat} (F : Nat → Nat) (hp : p ≤ k) : ns (k + 1) (fun i => F (insr od k p i)) = ns k (fun i => F (od i)) + F k := by
  have key : ∀ n, ns n (fun i => F (insr od k p i)) = if n ≤ p then ns n (fun i => F (od i)) else ns (n - 1) (fun i => F (od i)) + F k := by
    intro n
    induction n with
    | zero => simp [ns]
    | succ n ih =>
      show ns n (fun i => F (insr od k p i)) + F (insr od k p n) = _
      rw [ih]
      by_cases c1 : n < p
      · rw [if_pos (by omega), if_pos (by omega)]
        show _ = ns n (fun i => F (od i)) + F (od n)
        simp [insr, c1]
      · by_cases c2 : n = p
        · subst c2
          rw [if_pos (by omega), if_neg (by omega)]
          simp [insr]
        · rw [if_neg (by omega), if_neg (by omega)]
          obtain ⟨j, rfl⟩ : ∃ j, n = j + 1 := ⟨n - 1, by omega⟩
          show ns (j + 1 - 1) _ + F k + F (insr od k p (j + 1)) = ns (j + 1 + 1 - 1) _ + F k
          rw [show j + 1 - 1 = j by omega, show j + 1 + 1 - 1 = j + 1 by omega]
          show _ = ns j (fun i => F (od i)) + F (od j) + F k
          have : insr od k p (j + 1) = od j := by
            unfold insr
            rw [if_neg (by omega), if_neg (by omega)]
            rfl
          rw [this]
          omega
  rw [key (k + 1), if_neg (by omega)]
  rfl
theorem m_cancel {a b c : Nat} (hc : 1 ≤ c) (h : c * a ≤ c * b) : a ≤ b := Nat.le_of_mul_le_mul_left h hc
theorem cross_tr {fx sx fy sy fz sz : Nat} (hy : 1 ≤ sy) (h1 : fx * sy ≤ fy * sx) (h2 : fy * sz ≤ fz * sy) : fx * sz ≤ fz * sx := by
  refine m_cancel hy ?_
  have a1 := Nat.mul_le_mul_right sz h1
  have a2 := Nat.mul_le_mul_right sx h2
  calc sy * (fx * sz) = fx * sy * sz := by grind
    _ ≤ fy * sx * sz := a1
    _ = fy * sz * sx := by grind
    _ ≤ fz * sy * sx := a2
    _ = sy * (fz * sx) := by grind
theorem ahd_le {f s : Nat → Nat} {x y : Nat} (h : ahd f s x y) : f x * s y ≤ f y * s x := by
  rcases h with h | h
  · exact Nat.le_of_lt h
  · exact Nat.le_of_eq h.1
theorem srt_ins {k p : Nat} {f s od : Nat → Nat} (hs : ∀ q, q ≤ k → 1 ≤ s q) (h : srt k f s od) (hp : p ≤ k) (hhi : ∀ i, p ≤ i → i < k → f k * s (od i) < f (od i) * s k) (hlo : p = 0 ∨ f (od (p - 1)) * s k ≤ f k * s (od (p - 1))) : srt (k + 1) f s (insr od k p) := by
  obtain ⟨h1, h2, h3⟩ := h
  have lowk : ∀ i, i < p → ahd f s (od i) k := by
    intro i hi
    have e : f (od i) * s k ≤ f k * s (od i) := by
      rcases hlo with q | q
      · omega
      · by_cases c : i = p - 1
        · rw [c]; exact q
        · have b1 := h1 (p - 1) (by omega)
          exact cross_tr (hs _ (by omega)) (ahd_le (h2 i (p - 1) (by omega) (by omega))) q
    have b := h1 i (by omega)
    by_cases c : f (od i) * s k = f k * s (od i)
    · exact Or.inr ⟨c, b⟩
    · exact Or.inl (by omega)
  refine ⟨fun i hi => ?_, fun i j hij hj => ?_, fun F => ?_⟩
  · unfold insr
    split
    · have := h1 i (by omega); omega
    · split
      · omega
      · have := h1 (i - 1) (by omega); omega
  · unfold insr
    by_cases c1 : j < p
    · rw [if_pos (by omega), if_pos c1]
      exact h2 i j hij (by omega)
    · rw [if_neg c1]
      by_cases c2 : j = p
      · rw [if_pos c2, if_pos (by omega)]
        exact lowk i (by omega)
      · rw [if_neg c2]
        by_cases c3 : i < p
        · rw [if_pos c3]
          exact h2 i (j - 1) (by omega) (by omega)
        · rw [if_neg c3]
          by_cases c4 : i = p
          · rw [if_pos c4]
            exact Or.inl (hhi (j - 1) (by omega) (by omega))
          · rw [if_neg c4]
            exact h2 (i - 1) (j - 1) (by omega) (by omega)
  · rw [ns_ins F hp, h3 F]
    rfl
/-- the Pair at o -/
def pD (S : Zs) (o g : Nat) (f s Sh : Nat → Nat) (h1 h2 : Nat) : Prop := S.1 o 0 = nI g ∧ (1 ≤ g ∧ g ≤ 6) ∧ (∀ q, q < g → S.1 (o + 1) q = nI (Sh q) ∧ 1 ≤ Sh q ∧ Sh q ≤ 20) ∧ (∀ q, q < g → S.2 (o + 2) q = lN (f q) ∧ 1 ≤ f q ∧ f q ≤ 400) ∧ (∀ q, q < g → S.2 (o + 3) q = lN (s q) ∧ 1 ≤ s q ∧ s q ≤ 20) ∧ (S.2 o 5 = lN h1 ∧ 1 ≤ h1 ∧ h1 ≤ 4000) ∧ (S.2 o 6 = lN h2 ∧ 1 ≤ h2 ∧ h2 ≤ 99)
theorem pD_but {S S' : Zs} {o g k : Nat} {f s Sh : Nat → Nat} {h1 h2 : Nat} (P : pD S o g f s Sh h1 h2) (h : but S S' k) (k0 : o ≠ k) (k1 : o + 1 ≠ k) : pD S' o g f s Sh h1 h2 := by
  obtain ⟨p1, p2, p3, p4, p5, p6, p7⟩ := P
  refine ⟨by rw [h.2 _ _ k0]; exact p1, p2, fun q hq => by rw [h.2 _ _ k1]; exact p3 q hq, fun q hq => by rw [h.1]; exact p4 q hq, fun q hq => by rw [h.1]; exact p5 q hq, by rw [h.1]; exact p6, by rw [h.1]; exact p7⟩
section P0
variable {S : Zs} {o g : Nat} {f s Sh : Nat → Nat} {h1 h2 : Nat}
theorem p0_ins (P : pD S o g f s Sh h1 h2) {k : Nat} (hk : k < g) {od : Nat → Nat} (hod : ∀ i, i < k → od i < k) (k2 : Int32 → Zs → Option Zs) : ∀ n a (S1 : Zs), a ≤ k → a < n → but S S1 (o + 4) → (∀ i, i < a → S1.1 (o + 4) i = nI (od i)) → (∀ i, a < i → i ≤ k → S1.1 (o + 4) i = nI (od (i - 1))) → (∀ i, a ≤ i → i < k → f k * s (od i) < f (od i) * s k) → ∃ p S2, f0_sort_12 o k2 n (nI k) (nI a) S1 = k2 (nI (k + 1)) S2 ∧ but S S2 (o + 4) ∧ p ≤ k ∧ (∀ i, i ≤ k → S2.1 (o + 4) i = nI (insr od k p i)) ∧ (∀ i, p ≤ i → i < k → f k * s (od i) < f (od i) * s k) ∧ (p = 0 ∨ f (od (p - 1)) * s k ≤ f k * s (od (p - 1))) := by
  obtain ⟨p1, p2, p3, p4, p5, p6, p7⟩ := P
  have fin : ∀ a (S1 : Zs), a ≤ k → but S S1 (o + 4) → (∀ i, i < a → S1.1 (o + 4) i = nI (od i)) → (∀ i, a < i → i ≤ k → S1.1 (o + 4) i = nI (od (i - 1))) → ∃ S2, f0_sort_80 o k2 (nI k) (nI a) S1 = k2 (nI (k + 1)) S2 ∧ but S S2 (o + 4) ∧ (∀ i, i ≤ k → S2.1 (o + 4) i = nI (insr od k a i)) := by
    intro a S1 ha hB hlo hhi
    unfold f0_sort_80
    rw [if_pos (inb_nI (by omega) (by decide)), ltt, ltt, nI_clamp (by omega), show nI k + 1 = nI (k + 1) from nI_1 _]
    refine ⟨_, rfl, hB.tr but.put, fun i hi => ?_⟩
    rw [zI_rd]
    unfold insr
    by_cases c1 : i = a
    · rw [if_pos ⟨rfl, c1⟩, if_neg (by omega), if_pos c1]
    · rw [if_neg (fun q => c1 q.2)]
      by_cases c2 : i < a
      · rw [if_pos c2]; exact hlo i c2
      · rw [if_neg c2, if_neg c1]; exact hhi i (by omega) hi
  intro n
  induction n with
  | zero => intro a S1 _ h; omega
  | succ n ih =>
    intro a S1 ha hn hB hlo hhi hgt
    rw [f0_sort_12]
    dsimp only
    by_cases c : a = 0
    · subst c
      rw [if_pos (by decide)]
      obtain ⟨S2, e1, e2, e3⟩ := fin 0 S1 ha hB hlo hhi
      exact ⟨0, S2, e1, e2, by omega, e3, fun i hi hik => hgt i (by omega) hik, Or.inl rfl⟩
    · obtain ⟨b, rfl⟩ : ∃ b, a = b + 1 := ⟨a - 1, by omega⟩
      have bo := hod b (by omega)
      have eb := hlo b (by omega)
      have e1 : nI (b + 1) - (1 : Int32) = nI b := nI_pred b
      obtain ⟨fb, fb1, fb2⟩ := p4 (od b) (by omega)
      obtain ⟨sb, sb1, sb2⟩ := p5 (od b) (by omega)
      obtain ⟨fk, fk1, fk2⟩ := p4 k hk
      obtain ⟨sk, sk1, sk2⟩ := p5 k hk
      rw [if_neg (nI_nle (by omega) (by omega)), e1, nI_clamp (show b < 2 ^ 31 by omega), eb, nI_clamp (show od b < 2 ^ 31 by omega), nI_clamp (show k < 2 ^ 31 by omega)]
      rw [if_pos (inb_nI (by omega) (by decide)), if_pos (inb_nI (by omega) (by decide)), if_pos (inb_nI (by omega) (by decide)), if_pos (inb_nI (by omega) (by decide)), if_pos (inb_nI (by omega) (by decide)), if_pos (inb_nI (by omega) (by decide))]
      rw [hB.1, fb, sb, fk, sk, lN_mul, lN_mul]
      have m1 : f (od b) * s k ≤ 400 * 20 := Nat.mul_le_mul fb2 sk2
      have m2 : f k * s (od b) ≤ 400 * 20 := Nat.mul_le_mul fk2 sb2
      by_cases cc : f (od b) * s k ≤ f k * s (od b)
      · rw [if_pos ((pk_lLE (by omega) (by omega)).mpr cc)]
        obtain ⟨S2, q1, q2, q3⟩ := fin (b + 1) S1 ha hB hlo hhi
        exact ⟨b + 1, S2, q1, q2, ha, q3, hgt, Or.inr cc⟩
      · rw [if_neg (fun q => cc ((pk_lLE (by omega) (by omega)).mp q)), if_pos (inb_nI (by omega) (by decide)), if_pos (inb_nI (by omega) (by decide)), ltt, ltt, nI_clamp (by omega), show nI (b + 1) + (-1 : Int32) = nI b from pk_m1 b]
        refine ih b _ (by omega) (by omega) (hB.tr but.put) (fun i hi => ?_) (fun i hi hik => ?_) (fun i hi hik => ?_)
        · rw [zI_rd, if_neg (fun q => by omega)]
          exact hlo i (by omega)
        · rw [zI_rd]
          by_cases c9 : i = b + 1
          · rw [if_pos ⟨rfl, c9⟩, c9]
            rfl
          · rw [if_neg (fun q => c9 q.2)]
            exact hhi i (by omega) hik
        · by_cases c9 : i = b
          · rw [c9]; omega
          · exact hgt i (by omega) hik
theorem p0_sort (P : pD S o g f s Sh h1 h2) : ∃ S' od, f0_sort o S = some S' ∧ but S S' (o + 4) ∧ (∀ i, i < g → S'.1 (o + 4) i = nI (od i)) ∧ srt g f s od := by
  have g6 := P.2.1
  have key : ∀ n k (S1 : Zs) (od : Nat → Nat), k ≤ g → g - k < n → but S S1 (o + 4) → (∀ i, i < k → S1.1 (o + 4) i = nI (od i)) → srt k f s od → ∃ S' od, f0_sort_2 o n (nI k) S1 = some S' ∧ but S S' (o + 4) ∧ (∀ i, i < g → S'.1 (o + 4) i = nI (od i)) ∧ srt g f s od := by
    intro n
    induction n with
    | zero => intro k S1 od _ h; omega
    | succ n ih =>
      intro k S1 od hk hn hB ho hs
      have P1 : pD S1 o g f s Sh h1 h2 := pD_but P hB (by omega) (by omega)
      rw [f0_sort_2]
      dsimp only
      rw [P1.1]
      by_cases e : g ≤ k
      · rw [if_pos (nI_le e (by omega))]
        have : k = g := by omega
        subst this
        exact ⟨S1, od, rfl, hB, ho, hs⟩
      · rw [if_neg (nI_ge (by omega) (by omega))]
        obtain ⟨p, S2, e1, e2, e3, e4, e5, e6⟩ := p0_ins P1 (show k < g by omega) hs.1 (f0_sort_2 o n) fuel0 k S1 (Nat.le_refl _) (by unfold fuel0; omega) but.rf ho (fun i h1 h2 => by omega) (fun i h1 h2 => by omega)
        rw [e1]
        exact ih (k + 1) S2 (insr od k p) (by omega) (by omega) (hB.tr e2) (fun i hi => e4 i (by omega)) (srt_ins (fun q hq => (P.2.2.2.2.1 q (by omega)).2.1) hs e3 e5 e6)
  exact key fuel0 0 S (fun _ => 0) (by omega) (by unfold fuel0; omega) but.rf (fun i h => by omega) ⟨fun i h => by omega, fun i j _ h => by omega, fun F => rfl⟩
end P0
