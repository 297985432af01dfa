/-! THE REFERENCE: its world, costs, prices, makers, by sets of lands -/
def mW (S : Zs) (m g : Nat) (A : Nat → Nat → Nat) (H Sh : Nat → Nat) : Prop := S.1 0 5 = nI m ∧ S.1 0 6 = nI g ∧ (∀ q, q < g → S.1 4 q = nI (Sh q)) ∧ (∀ l, l < m → S.1 5 l = nI (H l)) ∧ ∀ l q, l < m → q < g → S.1 6 (6 * l + q) = nI (A l q)
theorem ct_at : ∀ t, t < 8 → ∀ l, l < 3 → f7_counts (nI t) (nI l) = if t.testBit l = true then 1 else 0 := by decide +kernel
/-- the least of c over the lands of t below n -/
def lsT : Nat → (Nat → Nat) → Nat → Option Nat
  | 0, _, _ => none
  | n + 1, c, t => if t.testBit n = true then (match lsT n c t with
    | none => some (c n)
    | some v => some (if c n < v then c n else v)) else lsT n c t
def oL : Option Nat → Int64
  | none => -1
  | some v => lN v
theorem lsT_some {c : Nat → Nat} {t : Nat} : ∀ {n : Nat} {v : Nat}, lsT n c t = some v → (∃ l, l < n ∧ t.testBit l = true ∧ c l = v) ∧ ∀ l, l < n → t.testBit l = true → v ≤ c l := by
  intro n
  induction n with
  | zero => intro v h; cases h
  | succ n ih =>
    intro v h
    rw [lsT] at h
    by_cases b : t.testBit n = true
    · rw [if_pos b] at h
      cases e : lsT n c t with
      | none =>
        rw [e] at h
        dsimp only at h
        have hv : c n = v := Option.some.inj h
        refine ⟨⟨n, by omega, b, hv⟩, fun l hl hb => ?_⟩
        by_cases cl : l = n
        · rw [cl]; omega
        · exfalso
          have : ∀ k, k ≤ n → lsT k c t = none → ∀ l, l < k → t.testBit l = false := by
            intro k
            induction k with
            | zero => intro _ _ l hl; omega
            | succ k ihk =>
              intro hk hN l hl
              rw [lsT] at hN
              by_cases bk : t.testBit k = true
              · rw [if_pos bk] at hN
                cases e2 : lsT k c t <;> rw [e2] at hN <;> cases hN
              · rw [if_neg bk] at hN
                by_cases c2 : l = k
                · rw [c2]; simpa using bk
                · exact ihk (by omega) hN l (by omega)
          have := this n (Nat.le_refl _) e l (by omega)
          rw [this] at hb
          cases hb
      | some u =>
        rw [e] at h
        dsimp only at h
        have hv : (if c n < u then c n else u) = v := Option.some.inj h
        obtain ⟨⟨l, h1, h2, h3⟩, h4⟩ := ih e
        constructor
        · by_cases k : c n < u
          · rw [if_pos k] at hv; exact ⟨n, by omega, b, hv⟩
          · rw [if_neg k] at hv; exact ⟨l, by omega, h2, by omega⟩
        · intro x hx hb
          by_cases k : x = n
          · rw [k]; split at hv <;> omega
          · have := h4 x (by omega) hb
            split at hv <;> omega
    · rw [if_neg b] at h
      obtain ⟨⟨l, h1, h2, h3⟩, h4⟩ := ih h
      refine ⟨⟨l, by omega, h2, h3⟩, fun x hx hb => ?_⟩
      by_cases k : x = n
      · rw [k] at hb; exact absurd hb b
      · exact h4 x (by omega) hb
theorem lsT_ex {c : Nat → Nat} {t l : Nat} : ∀ {n : Nat}, l < n → t.testBit l = true → ∃ v, lsT n c t = some v := by
  intro n
  induction n with
  | zero => intro h; omega
  | succ n ih =>
    intro h hb
    rw [lsT]
    by_cases b : t.testBit n = true
    · rw [if_pos b]
      cases lsT n c t with
      | none => exact ⟨_, rfl⟩
      | some u => exact ⟨_, rfl⟩
    · rw [if_neg b]
      refine ih ?_ hb
      by_cases k : l = n
      · rw [k] at hb; exact absurd hb b
      · omega
/-- who of t has cost p -/
def mkP : Nat → (Nat → Nat) → Nat → Option Nat → Nat
  | 0, _, _, _ => 0
  | n + 1, c, t, p => mkP n c t p + (if t.testBit n = true ∧ some (c n) = p then 2 ^ n else 0)
theorem mkP_lt {c : Nat → Nat} {t : Nat} {p : Option Nat} : ∀ {n : Nat}, mkP n c t p < 2 ^ n := by
  intro n
  induction n with
  | zero => exact Nat.one_pos
  | succ n ih =>
    show mkP n c t p + _ < _
    rw [Nat.pow_succ]
    split <;> omega
theorem mkP_bit {c : Nat → Nat} {t : Nat} {p : Option Nat} {l : Nat} : ∀ {n : Nat}, (mkP n c t p).testBit l = true ↔ l < n ∧ t.testBit l = true ∧ some (c l) = p := by
  intro n
  induction n with
  | zero =>
    show (0 : Nat).testBit l = true ↔ _
    rw [Nat.zero_testBit]
    exact ⟨fun h => absurd h (by decide), fun h => by omega⟩
  | succ n ih =>
    have lt := mkP_lt (c := c) (t := t) (p := p) (n := n)
    show (mkP n c t p + _).testBit l = true ↔ _
    by_cases k : t.testBit n = true ∧ some (c n) = p
    · rw [if_pos k, Nat.add_comm]
      rcases Nat.lt_trichotomy l n with h | h | h
      · rw [Nat.testBit_two_pow_add_gt h, ih]
        exact ⟨fun x => ⟨by omega, x.2⟩, fun x => ⟨h, x.2⟩⟩
      · subst h
        rw [Nat.testBit_two_pow_add_eq, Nat.testBit_lt_two_pow lt]
        exact ⟨fun _ => ⟨by omega, k⟩, fun _ => rfl⟩
      · have b : 2 ^ n + mkP n c t p < 2 ^ l := by
          have h1 : 2 ^ (n + 1) ≤ 2 ^ l := Nat.pow_le_pow_right (by decide) h
          rw [Nat.pow_succ] at h1
          omega
        rw [Nat.testBit_lt_two_pow b]
        exact ⟨fun x => (by cases x), fun x => by omega⟩
    · rw [if_neg k, Nat.add_zero, ih]
      constructor
      · rintro ⟨h1, h2⟩; exact ⟨by omega, h2⟩
      · rintro ⟨h1, h2⟩
        refine ⟨?_, h2⟩
        by_cases e : l = n
        · rw [e] at h2; exact absurd h2 k
        · omega
def mkT (m : Nat) (A : Nat → Nat → Nat) (W : Nat → Nat) (t q : Nat) : Nat := mkP m (fun l => W l * A l q) t (lsT m (fun l => W l * A l q) t)
theorem mkT_lt {m : Nat} (hm : m ≤ 3) {A : Nat → Nat → Nat} {W : Nat → Nat} {t q : Nat} : mkT m A W t q < 8 := Nat.lt_of_lt_of_le mkP_lt (pw8 hm)
theorem mkT_bit {m : Nat} {A : Nat → Nat → Nat} {W : Nat → Nat} {t q l : Nat} : (mkT m A W t q).testBit l = true ↔ l < m ∧ t.testBit l = true ∧ ∀ k, k < m → t.testBit k = true → W l * A l q ≤ W k * A k q := by
  unfold mkT
  rw [mkP_bit]
  constructor
  · rintro ⟨h1, h2, h3⟩
    have := lsT_some h3.symm
    exact ⟨h1, h2, this.2⟩
  · rintro ⟨h1, h2, h3⟩
    refine ⟨h1, h2, ?_⟩
    obtain ⟨v, hv⟩ := lsT_ex (c := fun l => W l * A l q) h1 h2
    rw [hv]
    obtain ⟨⟨k, k1, k2, k3⟩, k4⟩ := lsT_some hv
    have x1 := h3 k k1 k2
    have x2 := k4 l h1 h2
    try dsimp only at *
    congr 1
    omega
section M1
variable {S : Zs} {m g : Nat} {A : Nat → Nat → Nat} {H Sh W : Nat → Nat}
theorem ix6 {l q : Nat} : ((6 : Int32) * nI l) + nI q = nI (6 * l + q) := by rw [show (6 : Int32) = nI 6 from rfl, pk_mul, nI_add]
theorem p7_costOf (D : dat m g A H Sh) (C : mW S m g A H Sh) (G : cG S 11 m W) {l q : Nat} (hl : l < m) (hq : q < g) : f7_costOf S (nI l) (nI q) = some (lN (W l * A l q)) := by
  obtain ⟨⟨d1, d2⟩, ⟨d3, d4⟩, d5, d6, d7⟩ := D
  have b := d7 l q hl hq
  unfold f7_costOf
  rw [ix6, if_pos (inb_nI (by omega) (by decide)), if_pos (inb_nI (by omega) (by decide)), nI_clamp (by omega), nI_clamp (by omega), C.2.2.2.2 l q hl hq, (G l hl).1, nI_l (by omega), lN_mul, Nat.mul_comm]
theorem p7_priceOf (D : dat m g A H Sh) (C : mW S m g A H Sh) (G : cG S 11 m W) {t q : Nat} (ht : t < 8) (hq : q < g) : f7_priceOf S (nI t) (nI q) = some (oL (lsT m (fun l => W l * A l q) t)) := by
  have d1 := D.1
  have key : ∀ n j, j ≤ m → m - j < n → f7_priceOf_7 S n (nI t) (nI q) (oL (lsT j (fun l => W l * A l q) t)) (nI j) = some (oL (lsT m (fun l => W l * A l q) t)) := by
    intro n
    induction n with
    | zero => intro j _ h; omega
    | succ n ih =>
      intro j hj hn
      rw [f7_priceOf_7]
      dsimp only
      rw [C.1]
      by_cases e : m ≤ j
      · rw [if_pos (nI_le e (by omega)), show j = m by omega]
      · have ih' := ih (j + 1) (by omega) (by omega)
        rw [if_neg (nI_ge (by omega) (by omega)), ct_at t ht j (by omega)]
        rw [lsT] at ih'
        have cb := costb D G (l := j) (by omega) hq
        by_cases b : t.testBit j = true
        · rw [if_pos b, if_neg (by decide)]
          rw [if_pos b] at ih'
          cases e2 : lsT j (fun l => W l * A l q) t with
          | none =>
            rw [e2] at ih'
            rw [show oL none = (-1 : Int64) from rfl, if_pos (by decide)]
            unfold f7_priceOf_44 f7_priceOf_55
            rw [p7_costOf D C G (by omega) hq, bd1s, ltt, show nI j + 1 = nI (j + 1) from nI_1 _]
            exact ih'
          | some v =>
            rw [e2] at ih'
            have vb : v ≤ 200000000 := by
              obtain ⟨⟨k, k1, k2, k3⟩, -⟩ := lsT_some e2
              have := costb D G (l := k) (by omega) hq
              try dsimp only at k3
              omega
            rw [show oL (some v) = lN v from rfl, show (0 : Int64) = lN 0 from rfl, if_neg (fun k => by have := (pk_lLT (by omega) (by omega)).mp k; omega), p7_costOf D C G (by omega) hq, bd1s]
            unfold f7_priceOf_54 f7_priceOf_44 f7_priceOf_55
            by_cases c : W j * A j q < v
            · rw [if_neg (fun k => by have := (pk_lLE (by omega) (by omega)).mp k; omega), p7_costOf D C G (by omega) hq, bd1s, ltt, show nI j + 1 = nI (j + 1) from nI_1 _]
              dsimp only at ih'
              rw [if_pos c] at ih'
              exact ih'
            · rw [if_pos ((pk_lLE (by omega) (by omega)).mpr (by omega)), ltt, show nI j + 1 = nI (j + 1) from nI_1 _]
              dsimp only at ih'
              rw [if_neg c] at ih'
              exact ih'
        · rw [if_neg b, if_pos rfl]
          rw [if_neg b] at ih'
          unfold f7_priceOf_54 f7_priceOf_55
          rw [ltt, show nI j + 1 = nI (j + 1) from nI_1 _]
          exact ih'
  exact key fuel0 0 (by omega) (by unfold fuel0; omega)
theorem bt_or1 : ∀ l, l < 3 → ∀ b, b < 2 ^ l → nI b ||| ((1 : Int32) <<< (nI l &&& 31)) = nI (b + 2 ^ l) := by decide +kernel
theorem bt_or2 : ∀ b, b < 8 → nI b ||| (0 : Int32) = nI b := by decide +kernel
theorem p7_makersOf (D : dat m g A H Sh) (C : mW S m g A H Sh) (G : cG S 11 m W) {t q : Nat} (ht : t < 8) (hq : q < g) : f7_makersOf S (nI t) (nI q) = some (nI (mkT m A W t q)) := by
  have d1 := D.1
  obtain ⟨p, hp⟩ : ∃ p, p = lsT m (fun l => W l * A l q) t := ⟨_, rfl⟩
  have key : ∀ n j, j ≤ m → m - j < n → f7_makersOf_13 S n (nI t) (nI q) (oL p) (nI (mkP j (fun l => W l * A l q) t p)) (nI j) = some (nI (mkP m (fun l => W l * A l q) t p)) := by
    intro n
    induction n with
    | zero => intro j _ h; omega
    | succ n ih =>
      intro j hj hn
      rw [f7_makersOf_13]
      dsimp only
      rw [C.1]
      by_cases e : m ≤ j
      · rw [if_pos (nI_le e (by omega)), show j = m by omega]
      · have ih' := ih (j + 1) (by omega) (by omega)
        rw [mkP] at ih'
        have cb := costb D G (l := j) (by omega) hq
        have lt := mkP_lt (c := fun l => W l * A l q) (t := t) (p := p) (n := j)
        have lt8 : mkP j (fun l => W l * A l q) t p < 8 := Nat.lt_of_lt_of_le lt (pw8 (by omega))
        rw [if_neg (nI_ge (by omega) (by omega)), ct_at t ht j (by omega)]
        by_cases b : t.testBit j = true
        · rw [if_pos b, if_neg (by decide), p7_costOf D C G (by omega) hq, bd1s]
          obtain ⟨v, hv⟩ := lsT_ex (c := fun l => W l * A l q) (show j < m by omega) b
          have ep : p = some v := hp.trans hv
          have vb : v ≤ 200000000 := by
            obtain ⟨⟨k, k1, k2, k3⟩, -⟩ := lsT_some hv
            have := costb D G (l := k) (by omega) hq
            try dsimp only at k3
            omega
          rw [ep]
          rw [ep] at ih' lt lt8
          rw [show oL (some v) = lN v from rfl] at ih' ⊢
          by_cases c : W j * A j q = v
          · rw [if_pos ⟨b, by rw [c]⟩] at ih'
            rw [if_pos (by rw [c])]
            unfold f7_makersOf_54
            rw [ltt, ltt, bt_or1 j (by omega) _ lt, show nI j + 1 = nI (j + 1) from nI_1 _]
            exact ih'
          · rw [if_neg (fun k => c (Option.some.inj k.2)), Nat.add_zero] at ih'
            rw [if_neg (fun k => c ((pk_lEQ (by omega) (by omega)).mp k))]
            unfold f7_makersOf_53 f7_makersOf_54
            rw [ltt, ltt, bt_or2 _ lt8, show nI j + 1 = nI (j + 1) from nI_1 _]
            exact ih'
        · rw [if_neg b, if_pos rfl]
          rw [if_neg (fun k => b k.1), Nat.add_zero] at ih'
          unfold f7_makersOf_53 f7_makersOf_54
          rw [ltt, ltt, bt_or2 _ lt8, show nI j + 1 = nI (j + 1) from nI_1 _]
          exact ih'
  unfold f7_makersOf mkT
  rw [p7_priceOf D C G ht hq, bd1s, ← hp]
  exact key fuel0 0 (by omega) (by unfold fuel0; omega)
theorem p7_allShares (D : dat m g A H Sh) (C : mW S m g A H Sh) : f7_allShares S = some (nI (ns g Sh)) := by
  have d2 := D.2.1
  have key : ∀ n j, j ≤ g → g - j < n → f7_allShares_4 S n (nI (ns j Sh)) (nI j) = some (nI (ns g Sh)) := by
    intro n
    induction n with
    | zero => intro j _ h; omega
    | succ n ih =>
      intro j hj h
      rw [f7_allShares_4]
      dsimp only
      rw [C.2.1]
      by_cases e : g ≤ j
      · rw [if_pos (nI_le e (by omega)), show j = g by omega]
      · rw [if_neg (nI_ge (by omega) (by omega)), if_pos (inb_nI (by omega) (by decide)), ltt, ltt, nI_clamp (by omega), C.2.2.1 j (by omega), nI_add, show nI j + 1 = nI (j + 1) from nI_1 _]
        exact ih (j + 1) (by omega) (by omega)
  exact key fuel0 0 (by omega) (by unfold fuel0; omega)
theorem p7_incomeOf (D : dat m g A H Sh) (C : mW S m g A H Sh) (G : cG S 11 m W) {t : Nat} (ht : t < 8) : f7_incomeOf S (nI t) = some (lN (incN m H W t)) := by
  have d1 := D.1
  have key : ∀ n j, j ≤ m → m - j < n → f7_incomeOf_5 S n (nI t) (lN (ns j (fun l => if t.testBit l = true then H l * W l else 0))) (nI j) = some (lN (incN m H W t)) := by
    intro n
    induction n with
    | zero => intro j _ h; omega
    | succ n ih =>
      intro j hj h
      rw [f7_incomeOf_5]
      dsimp only
      rw [C.1]
      by_cases e : m ≤ j
      · rw [if_pos (nI_le e (by omega)), show j = m by omega]
        rfl
      · have b1 := D.2.2.1 j (by omega)
        have ih' := ih (j + 1) (by omega) (by omega)
        have e1 : ns (j + 1) (fun l => if t.testBit l = true then H l * W l else 0) = ns j (fun l => if t.testBit l = true then H l * W l else 0) + (if t.testBit j = true then H j * W j else 0) := rfl
        rw [e1] at ih'
        rw [if_neg (nI_ge (by omega) (by omega)), ct_at t ht j (by omega)]
        unfold f7_incomeOf_45
        by_cases c : t.testBit j = true
        · rw [if_pos c] at ih'
          rw [if_pos c, if_neg (by decide), if_pos (inb_nI (by omega) (by decide)), if_pos (inb_nI (by omega) (by decide)), ltt, ltt, nI_clamp (by omega), C.2.2.2.1 j (by omega), (G j (by omega)).1, nI_l (by omega), lN_mul, lN_add, show nI j + 1 = nI (j + 1) from nI_1 _]
          exact ih'
        · rw [if_neg c] at ih'
          rw [if_neg c, if_pos rfl, ltt, ltt, show (0 : Int64) = lN 0 from rfl, lN_add, show nI j + 1 = nI (j + 1) from nI_1 _]
          exact ih'
  exact key fuel0 0 (by omega) (by unfold fuel0; omega)
end M1
