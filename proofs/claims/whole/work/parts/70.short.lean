/-! the common divisor, and wages made short -/
theorem gcd_st (x y : Nat) : Nat.gcd x y = Nat.gcd y (x % y) := by
  rw [Nat.gcd_comm x y, Nat.gcd_rec y x, Nat.gcd_comm]
theorem half_of {y r : Nat} (h : r < y) (h0 : 0 < r) {k : Nat} (hk : y < 2 ^ (k + 1)) : y % r < 2 ^ k := by
  have e : 2 ^ (k + 1) = 2 * 2 ^ k := by rw [Nat.pow_succ]; omega
  rw [e] at hk
  have h1 := Nat.mod_lt y h0
  by_cases c : 2 * r ≤ y
  · omega
  · have : y % r = y - r := by
      rw [Nat.mod_eq_sub_mod (by omega), Nat.mod_eq_of_lt (by omega)]
    omega
theorem lN_0' {y : Nat} (hy : y < 2 ^ 63) : (lN y = (0 : Int64)) ↔ y = 0 := by
  rw [show (0 : Int64) = lN 0 from rfl]
  exact pk_lEQ hy (by decide)
theorem p6_cd : ∀ k n r x y, y < 2 ^ k → 2 * k + r ≤ 200 → 2 * k + 1 ≤ n → x < 2 ^ 63 → y < 2 ^ 63 → f6_commonDivisor_9 n (lN x) (lN y) (nI r) = some (lN (Nat.gcd x y)) := by
  have stop : ∀ n r x, 1 ≤ n → f6_commonDivisor_9 n (lN x) (lN 0) (nI r) = some (lN x) := by
    intro n r x hn
    obtain ⟨n, rfl⟩ : ∃ n', n = n' + 1 := ⟨n - 1, by omega⟩
    rw [f6_commonDivisor_9]
    dsimp only
    split
    · rfl
    · exact if_pos rfl
  intro k
  induction k with
  | zero =>
    intro n r x y hy _ hn _ _
    have : y = 0 := by simp at hy; exact hy
    subst this
    rw [stop n r x (by omega), Nat.gcd_zero_right]
  | succ k ih =>
    intro n r x y hy hr hn hx hy3
    by_cases c : y = 0
    · subst c
      rw [stop n r x (by omega), Nat.gcd_zero_right]
    · obtain ⟨n, rfl⟩ : ∃ n', n = n' + 1 + 1 := ⟨n - 2, by omega⟩
      have st : ∀ n r x y, r < 200 → 0 < y → x < 2 ^ 63 → y < 2 ^ 63 → f6_commonDivisor_9 (n + 1) (lN x) (lN y) (nI r) = f6_commonDivisor_9 n (lN y) (lN (x % y)) (nI (r + 1)) := by
        intro n r x y hr h0 hx hy
        rw [f6_commonDivisor_9]
        dsimp only
        rw [show (200 : Int32) = nI 200 from rfl, if_neg (nI_ge hr (by decide)), if_neg (fun q => by have := (lN_0' hy).mp q; omega), if_neg (fun q => by have := (lN_0' hy).mp q; omega), ltt, ltt, pk_lRem hx h0 hy, show nI r + 1 = nI (r + 1) from nI_1 _]
      rw [st (n + 1) r x y (by omega) (by omega) hx hy3, gcd_st x y]
      have l1 := Nat.mod_lt x (show y > 0 by omega)
      by_cases c2 : x % y = 0
      · rw [c2, stop _ _ _ (by omega), Nat.gcd_zero_right]
      · rw [st n (r + 1) y (x % y) (by omega) (by omega) hy3 (by omega), gcd_st y (x % y)]
        have l2 := Nat.mod_lt y (show x % y > 0 by omega)
        exact ih n (r + 1 + 1) (x % y) (y % (x % y)) (half_of l1 (by omega) hy) (by omega) (by omega) (by omega) (by omega)
theorem p6_commonDivisor {x y : Nat} (hx : x < 2 ^ 63) (hy : y < 2 ^ 63) : f6_commonDivisor (lN x) (lN y) = some (lN (Nat.gcd x y)) :=
  p6_cd 63 fuel0 0 x y hy (by omega) (by unfold fuel0; omega) hx hy
/-- the common divisor of the first n -/
def gcds : Nat → (Nat → Nat) → Nat
  | 0, _ => 0
  | n + 1, W => Nat.gcd (W n) (gcds n W)
theorem gcds_dvd {n : Nat} {W : Nat → Nat} : ∀ l, l < n → gcds n W ∣ W l := by
  induction n with
  | zero => intro l h; omega
  | succ n ih =>
    intro l h
    by_cases c : l = n
    · rw [c]; exact Nat.gcd_dvd_left _ _
    · exact Nat.dvd_trans (Nat.gcd_dvd_right _ _) (ih l (by omega))
theorem gcds_le {n : Nat} {W : Nat → Nat} {b : Nat} (h : ∀ l, l < n → 1 ≤ W l ∧ W l ≤ b) : gcds n W ≤ b := by
  cases n with
  | zero => exact Nat.zero_le _
  | succ n =>
    have := h n (by omega)
    exact Nat.le_trans (Nat.gcd_le_left _ (by omega)) this.2
section SH
variable {S : Zs} {o m g : Nat} {A : Nat → Nat → Nat} {H Sh W : Nat → Nat}
/-- S' is S but for the row at k -/
def rowL (S S' : Zs) (k : Nat) : Prop := S'.1 = S.1 ∧ ∀ a, a ≠ k → S'.2 a = S.2 a
theorem rowL.rf {S : Zs} {k : Nat} : rowL S S k := ⟨rfl, fun _ _ => rfl⟩
theorem rowL.tr {S S' S'' : Zs} {k : Nat} (h : rowL S S' k) (h' : rowL S' S'' k) : rowL S S'' k := ⟨h'.1.trans h.1, fun a e => (h'.2 a e).trans (h.2 a e)⟩
theorem rowL.put {S : Zs} {k j : Nat} {v : Int64} : rowL S (zL S k j v) k := ⟨rfl, fun a e => zL_2n S j v e⟩
theorem p1_shorten (hm : 1 ≤ m ∧ m ≤ 3) (e0 : S.1 o 0 = nI m) (G : cG S (o + 7) m W) (hW : ∀ l, l < m → 1 ≤ W l) : ∃ S' W' d, f1_shorten o S = some S' ∧ rowL S S' (o + 7) ∧ cG S' (o + 7) m W' ∧ 1 ≤ d ∧ ∀ l, l < m → W l = d * W' l := by
  have dv : ∀ (S1 : Zs) d, 1 < d → (∀ l, l < m → d ∣ W l) → d ≤ 10000000 → ∀ n j (S1 : Zs), j ≤ m → m - j < n → rowL S S1 (o + 7) → (∀ l, l < j → S1.2 (o + 7) l = lN (W l / d)) → (∀ l, j ≤ l → l < m → S1.2 (o + 7) l = lN (W l)) → ∃ S', f1_shorten_31 o n (lN d) (nI j) S1 = some S' ∧ rowL S S' (o + 7) ∧ cG S' (o + 7) m (fun l => W l / d) := by
    intro _ d hd hdv hdb n
    induction n with
    | zero => intro j S1 _ h; omega
    | succ n ih =>
      intro j S1 hj hn hB h1 h2
      rw [f1_shorten_31]
      dsimp only
      rw [hB.1, e0]
      by_cases e : m ≤ j
      · rw [if_pos (nI_le e (by omega))]
        refine ⟨S1, rfl, hB, fun l hl => ⟨h1 l (by omega), ?_⟩⟩
        exact Nat.le_trans (Nat.div_le_self _ _) (G l hl).2
      · have bw := (G j (by omega)).2
        rw [if_neg (nI_ge (by omega) (by omega)), show (1 : Int64) = lN 1 from rfl, if_neg (fun q => by have := (pk_lLE (by omega) (by omega)).mp q; omega), if_pos (inb_nI (by omega) (by decide)), if_neg (fun q => by have := (lN_0' (by omega)).mp q; omega), if_pos (inb_nI (by omega) (by decide)), ltt, ltt, nI_clamp (by omega), h2 j (Nat.le_refl _) (by omega), pk_lDiv (by omega) (by omega) (by omega), show nI j + 1 = nI (j + 1) from nI_1 _]
        refine ih (j + 1) _ (by omega) (by omega) (hB.tr rowL.put) (fun l hl => ?_) (fun l hl hlm => ?_)
        · rw [zL_rd]
          by_cases c : l = j
          · rw [if_pos ⟨rfl, c⟩, c]
          · rw [if_neg (fun q => c q.2)]; exact h1 l (by omega)
        · rw [zL_rd, if_neg (fun q => by omega)]; exact h2 l (by omega) hlm
  have key : ∀ n j, j ≤ m → m - j < n → ∃ S' W' d, f1_shorten_4 o n (lN (gcds j W)) (nI j) S = some S' ∧ rowL S S' (o + 7) ∧ cG S' (o + 7) m W' ∧ 1 ≤ d ∧ ∀ l, l < m → W l = d * W' l := by
    intro n
    induction n with
    | zero => intro j _ h; omega
    | succ n ih =>
      intro j hj hn
      have gb := gcds_le (n := j) (W := W) (b := 10000000) (fun l hl => ⟨hW l (by omega), (G l (by omega)).2⟩)
      rw [f1_shorten_4]
      dsimp only
      rw [e0]
      by_cases e : m ≤ j
      · rw [if_pos (nI_le e (by omega))]
        have ej : j = m := by omega
        subst ej
        by_cases c1 : 1 < gcds j W
        · obtain ⟨S', x1, x2, x3⟩ := dv S (gcds j W) c1 gcds_dvd gb fuel0 0 S (by omega) (by unfold fuel0; omega) rowL.rf (fun l h => by omega) (fun l _ hl => (G l hl).1)
          refine ⟨S', fun l => W l / gcds j W, gcds j W, x1, x2, x3, by omega, fun l hl => ?_⟩
          exact (Nat.mul_div_cancel' (gcds_dvd l hl)).symm
        · refine ⟨S, W, 1, ?_, rowL.rf, G, Nat.le_refl _, fun l _ => by omega⟩
          show f1_shorten_31 o (999 + 1) _ _ _ = _
          rw [f1_shorten_31]
          dsimp only
          rw [e0, show (0 : Int32) = nI 0 from rfl, if_neg (nI_ge (by omega) (by omega)), show (1 : Int64) = lN 1 from rfl, if_pos ((pk_lLE (by omega) (by omega)).mpr (by omega))]
      · have bw := (G j (by omega)).2
        rw [if_neg (nI_ge (by omega) (by omega)), if_pos (inb_nI (by omega) (by decide)), nI_clamp (by omega), (G j (by omega)).1, p6_commonDivisor (by omega) (by omega), bd1s, ltt, show nI j + 1 = nI (j + 1) from nI_1 _]
        exact ih (j + 1) (by omega) (by omega)
  exact key fuel0 0 (by omega) (by unfold fuel0; omega)
/-- a rest, made larger or smaller by one number, is a rest -/
theorem restN_of {W' : Nat → Nat} (hm : 1 ≤ m ∧ m ≤ 3) (h : restN m g A H Sh W) {d e : Nat} (hd : 1 ≤ d) (he : 1 ≤ e) (hW' : ∀ l, l < m → 1 ≤ W' l) (hp : ∀ l, l < m → d * W' l = e * W l) : restN m g A H Sh W' := by
  refine ⟨hW', (rest_N hm).mpr (fun T => ?_)⟩
  have p1 : (0 : Rat) < (d : Rat) := qc_pos hd
  have p2 : (0 : Rat) < (e : Rat) := qc_pos he
  refine okT_prop (v := q1 W) (w := q1 W') (c := (e : Rat) / (d : Rat)) ?_ (fun l hl => ?_) ((rest_N hm).mp h.2 T)
  · rw [Rat.div_def]
    exact Rat.mul_pos p2 (Rat.inv_pos.mpr p1)
  · have k : ((d * W' l : Nat) : Rat) = ((e * W l : Nat) : Rat) := by rw [hp l hl]
    rw [qc_mul, qc_mul] at k
    show (W' l : Rat) = (e : Rat) / (d : Rat) * (W l : Rat)
    grind
theorem p1_clearWins : ∃ S', f1_clearWins S = some S' ∧ (∀ x, (x < 29 ∨ 32 ≤ x) → S'.1 x = S.1 x) ∧ S'.2 = S.2 ∧ ∀ l q, l < 3 → q < 6 → S'.1 (29 + l) q = nI 0 := by
  have inner : ∀ (k2 : Int32 → Zs → Option Zs) l, l < 3 → ∀ n j (S1 : Zs), j ≤ 6 → 6 - j < n → ∃ S2, f1_clearWins_9 k2 n (nI l) (nI j) S1 = k2 (nI (l + 1)) S2 ∧ (∀ x, x ≠ 29 + l → S2.1 x = S1.1 x) ∧ S2.2 = S1.2 ∧ (∀ q, j ≤ q → q < 6 → S2.1 (29 + l) q = nI 0) ∧ ∀ q, q < j → S2.1 (29 + l) q = S1.1 (29 + l) q := by
    intro k2 l hl n
    induction n with
    | zero => intro j S1 _ h; omega
    | succ n ih =>
      intro j S1 hj hn
      rw [f1_clearWins_9]
      dsimp only
      rw [show (6 : Int32) = nI 6 from rfl]
      by_cases e : 6 ≤ j
      · rw [if_pos (nI_le e (by omega)), ltt, show nI l + 1 = nI (l + 1) from nI_1 _]
        exact ⟨S1, rfl, fun _ _ => rfl, rfl, fun q h1 h2 => by omega, fun _ _ => rfl⟩
      · rw [if_neg (nI_ge (by omega) (by omega)), if_pos (inb_nI (by omega) (by decide)), if_pos (inb_nI (by omega) (by decide)), ltt, ltt, nI_clamp (by omega), nI_clamp (by omega), show nI j + 1 = nI (j + 1) from nI_1 _]
        obtain ⟨S2, x1, x2, x3, x4, x5⟩ := ih (j + 1) (zI S1 (29 + l) j 0) (by omega) (by omega)
        refine ⟨S2, x1, fun x hx => (x2 x hx).trans (zI_1n _ _ _ hx), x3, fun q h1 h2 => ?_, fun q hq => ?_⟩
        · by_cases c : q = j
          · rw [x5 q (by omega), zI_rd, if_pos ⟨rfl, c⟩]; rfl
          · exact x4 q (by omega) h2
        · rw [x5 q (by omega), zI_rd, if_neg (fun k => by omega)]
  have key : ∀ n l (S1 : Zs), l ≤ 3 → 3 - l < n → (∀ x, (x < 29 ∨ 32 ≤ x) → S1.1 x = S.1 x) → S1.2 = S.2 → (∀ k q, k < l → q < 6 → S1.1 (29 + k) q = nI 0) → ∃ S', f1_clearWins_2 n (nI l) S1 = some S' ∧ (∀ x, (x < 29 ∨ 32 ≤ x) → S'.1 x = S.1 x) ∧ S'.2 = S.2 ∧ ∀ l q, l < 3 → q < 6 → S'.1 (29 + l) q = nI 0 := by
    intro n
    induction n with
    | zero => intro l S1 _ h; omega
    | succ n ih =>
      intro l S1 hl hn h1 h2 h3
      rw [f1_clearWins_2]
      dsimp only
      rw [show (3 : Int32) = nI 3 from rfl]
      by_cases e : 3 ≤ l
      · rw [if_pos (nI_le e (by omega))]
        exact ⟨S1, rfl, h1, h2, fun k q hk hq => h3 k q (by omega) hq⟩
      · rw [if_neg (nI_ge (by omega) (by omega))]
        obtain ⟨S2, x1, x2, x3, x4, x5⟩ := inner (f1_clearWins_2 n) l (by omega) fuel0 0 S1 (by omega) (by unfold fuel0; omega)
        rw [show (0 : Int32) = nI 0 from rfl, x1]
        refine ih (l + 1) S2 (by omega) (by omega) (fun x hx => (x2 x (by omega)).trans (h1 x hx)) (x3.trans h2) (fun k q hk hq => ?_)
        by_cases c : k = l
        · rw [c]; exact x4 q (by omega) hq
        · rw [x2 (29 + k) (by omega)]; exact h3 k q (by omega) hq
  exact key fuel0 0 S (by omega) (by unfold fuel0; omega) (fun _ _ => rfl) rfl (fun k q h => by omega)
end SH
