/-! more -/
def bg (A : Nat → Nat → Nat) (sp : Nat → Nat) (a b : Nat) : Nat → Option Nat
  | 0 => none
  | q + 1 => if (sp q).testBit a = true then (match bg A sp a b q with
    | none => some q
    | some x => if A b x * A a q ≤ A b q * A a x then some x else some q) else bg A sp a b q
theorem bg_lt {A : Nat → Nat → Nat} {sp : Nat → Nat} {a b : Nat} : ∀ {n x : Nat}, bg A sp a b n = some x → x < n := by
  intro n
  induction n with
  | zero => intro x h; exact absurd h (by simp [bg])
  | succ n ih =>
    intro x h
    rw [bg] at h
    by_cases c : (sp n).testBit a = true
    · rw [if_pos c] at h
      cases e : bg A sp a b n with
      | none =>
        rw [e] at h
        have : n = x := Option.some.inj h
        omega
      | some y =>
        have := ih e
        rw [e] at h
        dsimp only at h
        by_cases c2 : A b y * A a n ≤ A b n * A a y
        · rw [if_pos c2] at h
          have : y = x := Option.some.inj h
          omega
        · rw [if_neg c2] at h
          have : n = x := Option.some.inj h
          omega
    · rw [if_neg c] at h
      have := ih h
      omega
def ecC : Option Nat → Int32
  | none => -1
  | some x => nI x
def ecM : Option Nat → Int32
  | none => -1000000
  | some x => nI x
def gvM (A : Nat → Nat → Nat) (a b : Nat) (o : Option Nat) (S : Zs) : Option (Int32 × Zs) := match o with
  | none => some (0, S)
  | some x => some (1, zL (zL S 0 31 (S.2 0 31 * lN (A b x))) 0 32 (S.2 0 32 * lN (A a x)))
section MO
variable {C M T S : Zs} {m g : Nat} {A : Nat → Nat → Nat} {H Sh : Nat → Nat} {sp : Nat → Nat}
theorem mulb (D : dat m g A H Sh) {a b x y : Nat} (ha : a < m) (hb : b < m) (hx : x < g) (hy : y < g) : A a x * A b y ≤ 400 := Nat.mul_le_mul (D.2.2.2.2 a x ha hx).2 (D.2.2.2.2 b y hb hy).2
theorem p6_bg (D : dat m g A H Sh) (c : cW C 37 m g A H Sh) (hs : ∀ q, q < g → C.1 65 q = nI (sp q) ∧ sp q < 8) {a b : Nat} (ha : a < m) (hb : b < m) : ∀ n q, q ≤ g → g - q < n → f6_bestGift_5 C n (nI a) (nI b) (ecC (bg A sp a b q)) (nI q) = some (ecC (bg A sp a b g)) := by
  have d1 := D.1
  have d2 := D.2.1
  intro n
  induction n with
  | zero => intro q _ h; omega
  | succ n ih =>
    intro q hq hn
    unfold f6_bestGift_5
    rw [c.2.1]
    by_cases e : g ≤ q
    · rw [if_pos (nI_le e (by omega)), show q = g by omega]
    rw [if_neg (nI_ge (by omega) (by omega)), if_pos (inb_nI (by omega) (by decide)), nI_clamp (show q < 2 ^ 31 by omega), (hs q (by omega)).1]
    have nx := ih (q + 1) (by omega) (by omega)
    rw [bg] at nx
    have bt := bt_at (sp q) (hs q (by omega)).2 a (by omega)
    unfold f6_bestGift_92 f6_bestGift_89 f6_bestGift_92
    by_cases t : (sp q).testBit a = true
    · rw [if_neg (fun k => by rw [bt.mp k] at t; exact absurd t (by decide))]
      rw [if_pos t] at nx
      cases eb : bg A sp a b q with
      | none =>
        rw [eb] at nx
        rw [if_pos (show ecC none < 0 by decide), ltt, show nI q + 1 = nI (q + 1) from nI_1 _]
        exact nx
      | some x =>
        have hx := bg_lt eb
        rw [eb] at nx
        dsimp only at nx
        unfold ecC at nx ⊢
        dsimp only at nx ⊢
        rw [if_neg (nI_pos (by omega)), if_pos (inb_nI (show b < 3 by omega) (by decide)), if_pos (inb_nI (show q < 6 by omega) (by decide)), if_pos (inb_nI (show a < 3 by omega) (by decide)), if_pos (inb_nI (show x < 6 by omega) (by decide)), if_pos (inb_nI (show b < 3 by omega) (by decide)), if_pos (inb_nI (show x < 6 by omega) (by decide)), if_pos (inb_nI (show a < 3 by omega) (by decide)), if_pos (inb_nI (show q < 6 by omega) (by decide)), nI_clamp (show a < 2 ^ 31 by omega), nI_clamp (show b < 2 ^ 31 by omega), nI_clamp (show x < 2 ^ 31 by omega), c.2.2.2.2 b x hb (by omega), c.2.2.2.2 a q ha (by omega), c.2.2.2.2 b q hb (by omega), c.2.2.2.2 a x ha (by omega), pk_mul, pk_mul, ltt, ltt, show nI q + 1 = nI (q + 1) from nI_1 _]
        have m1 := mulb D hb ha (x := x) (y := q) (by omega) (by omega)
        have m2 := mulb D hb ha (x := q) (y := x) (by omega) (by omega)
        by_cases k : A b x * A a q ≤ A b q * A a x
        · rw [if_pos k] at nx
          rw [if_pos (nI_le k (by omega))]
          exact nx
        · rw [if_neg k] at nx
          rw [if_neg (nI_ge (by omega) (by omega))]
          exact nx
    · rw [if_pos (bt.mpr (by simpa using t)), ltt, show nI q + 1 = nI (q + 1) from nI_1 _]
      rw [if_neg t] at nx
      exact nx
theorem p7_bg (D : dat m g A H Sh) (c : mW S m g A H Sh) {at' : Nat} (hat : at' + g ≤ 320) (hs : ∀ q, q < g → S.1 3 (at' + q) = nI (sp q) ∧ sp q < 8) {a b : Nat} (ha : a < m) (hb : b < m) : ∀ n q, q ≤ g → g - q < n → f7_gives_7 n (nI at') (nI a) (nI b) (ecM (bg A sp a b q)) (nI q) S = gvM A a b (bg A sp a b g) S := by
  have d1 := D.1
  have d2 := D.2.1
  intro n
  induction n with
  | zero => intro q _ h; omega
  | succ n ih =>
    intro q hq hn
    unfold f7_gives_7
    rw [c.2.1]
    by_cases e : g ≤ q
    · rw [if_pos (nI_le e (by omega)), show q = g by omega]
      cases eb : bg A sp a b g with
      | none => rfl
      | some x =>
        have hx := bg_lt eb
        have n1 : ¬ nI x = (-1000000 : Int32) := fun k => by
          have := congrArg Int32.toInt k
          rw [nI_toInt (by omega), show (-1000000 : Int32).toInt = -1000000 by decide] at this
          omega
        unfold ecM gvM
        dsimp only
        have bA := D.2.2.2.2 a x ha hx
        have bB := D.2.2.2.2 b x hb hx
        rw [if_neg n1, ix6, ix6, if_pos (inb_nI (show 6 * b + x < 18 by omega) (by decide)), ltt, if_pos (inb_nI (show 6 * a + x < 18 by omega) (by decide)), ltt, nI_clamp (show 6 * b + x < 2 ^ 31 by omega), nI_clamp (show 6 * a + x < 2 ^ 31 by omega), zL_1, c.2.2.2.2 b x hb hx, c.2.2.2.2 a x ha hx, nI_l (by omega), nI_l (by omega), zL_rd S 0 31 _ 0 32, if_neg (by decide)]
    rw [if_neg (nI_ge (by omega) (by omega)), nI_add, if_pos (inb_nI (by omega) (by decide)), nI_clamp (show at' + q < 2 ^ 31 by omega), (hs q (by omega)).1, ct_at _ (hs q (by omega)).2 a (by omega)]
    have nx := ih (q + 1) (by omega) (by omega)
    rw [bg] at nx
    unfold f7_gives_93 f7_gives_100 f7_gives_102
    by_cases t : (sp q).testBit a = true
    · rw [if_neg (show ¬ (if (sp q).testBit a = true then (1 : Int32) else 0) = 0 by rw [if_pos t]; exact i10)]
      rw [if_pos t] at nx
      cases eb : bg A sp a b q with
      | none =>
        rw [eb] at nx
        rw [if_pos (show ecM none = -1000000 from rfl), ltt, show nI q + 1 = nI (q + 1) from nI_1 _]
        exact nx
      | some x =>
        have hx := bg_lt eb
        have n1 : ¬ nI x = (-1000000 : Int32) := fun k => by
          have := congrArg Int32.toInt k
          rw [nI_toInt (by omega), show (-1000000 : Int32).toInt = -1000000 by decide] at this
          omega
        rw [eb] at nx
        dsimp only at nx
        unfold ecM at nx ⊢
        dsimp only at nx ⊢
        rw [if_neg n1, ix6, ix6, ix6, ix6, if_pos (inb_nI (show 6 * b + q < 18 by omega) (by decide)), if_pos (inb_nI (show 6 * a + x < 18 by omega) (by decide)), if_pos (inb_nI (show 6 * b + x < 18 by omega) (by decide)), if_pos (inb_nI (show 6 * a + q < 18 by omega) (by decide)), nI_clamp (show 6 * b + q < 2 ^ 31 by omega), nI_clamp (show 6 * a + x < 2 ^ 31 by omega), nI_clamp (show 6 * b + x < 2 ^ 31 by omega), nI_clamp (show 6 * a + q < 2 ^ 31 by omega), c.2.2.2.2 b x hb (by omega), c.2.2.2.2 a q ha (by omega), c.2.2.2.2 b q hb (by omega), c.2.2.2.2 a x ha (by omega), pk_mul, pk_mul, ltt, ltt, show nI q + 1 = nI (q + 1) from nI_1 _]
        have m1 := mulb D hb ha (x := x) (y := q) (by omega) (by omega)
        have m2 := mulb D hb ha (x := q) (y := x) (by omega) (by omega)
        by_cases k : A b x * A a q ≤ A b q * A a x
        · rw [if_pos k] at nx
          rw [if_pos (nI_le k (by omega))]
          exact nx
        · rw [if_neg k] at nx
          rw [if_neg (nI_ge (by omega) (by omega))]
          exact nx
    · rw [if_pos (show (if (sp q).testBit a = true then (1 : Int32) else 0) = 0 by rw [if_neg t]), ltt, show nI q + 1 = nI (q + 1) from nI_1 _]
      rw [if_neg t] at nx
      exact nx
end MO
