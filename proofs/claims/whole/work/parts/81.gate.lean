/-! the calls that only look -/
theorem l64 (x y : Int32) : x.toInt64 < y.toInt64 ↔ x < y := by
  rw [Int64.lt_iff_toInt_lt, Int32.lt_iff_toInt_lt, Int32.toInt_toInt64, Int32.toInt_toInt64]
theorem l64' (x y : Int32) : x.toInt64 ≤ y.toInt64 ↔ x ≤ y := by
  rw [Int64.le_iff_toInt_le, Int32.le_iff_toInt_le, Int32.toInt_toInt64, Int32.toInt_toInt64]
theorem inI (x a b : Int32) : f7_in x.toInt64 a.toInt64 b.toInt64 = if x < a then 0 else if b < x then 0 else 1 := by
  unfold f7_in
  by_cases c1 : x < a
  · rw [if_pos c1, if_pos ((l64 x a).mpr c1)]
  · rw [if_neg c1, if_neg (fun k => c1 ((l64 x a).mp k))]
    by_cases c2 : b < x
    · rw [if_pos c2, if_pos ((l64 b x).mpr c2)]
    · rw [if_neg c2, if_neg (fun k => c2 ((l64 b x).mp k))]
theorem i32le (x y : Int32) : ¬ x < y ↔ y ≤ x := by
  rw [Int32.lt_iff_toInt_lt, Int32.le_iff_toInt_le]
  omega
theorem i32lt (x y : Int32) : ¬ x ≤ y ↔ y < x := by
  rw [Int32.lt_iff_toInt_lt, Int32.le_iff_toInt_le]
  omega
theorem bnd_lt {n : Nat} (h1 : 1 ≤ n) (h : n < 2 ^ 31) (x : Int32) : nI (n - 1) < x ↔ nI n ≤ x := by
  rw [Int32.lt_iff_toInt_lt, Int32.le_iff_toInt_le, nI_toInt (by omega), nI_toInt h]
  omega
section GT
variable {C M : Zs} {m g : Nat} {A : Nat → Nat → Nat} {H Sh W : Nat → Nat}
theorem g_ix {n : Nat} (h1 : 1 ≤ n) (hn : n < 2 ^ 30) (x : Int32) : ((if x < 0 then (0 : Int32) else if nI n ≤ x then 0 else 1) = 0 ∧ f7_in x.toInt64 0 ((nI n - 1).toInt64) = 0) ∨ ∃ l, l < n ∧ x = nI l ∧ (if x < 0 then (0 : Int32) else if nI n ≤ x then 0 else 1) = 1 ∧ f7_in x.toInt64 0 ((nI n - 1).toInt64) = 1 := by
  have e : nI n - 1 = nI (n - 1) := by
    obtain ⟨k, rfl⟩ : ∃ k, n = k + 1 := ⟨n - 1, by omega⟩
    exact nI_pred k
  rw [e, show (0 : Int64) = (0 : Int32).toInt64 from rfl, inI]
  rcases pk_ix x (n := n) (by omega) with h | h | ⟨j, hj, rfl⟩
  · left
    rw [if_pos h, if_pos h]
    exact ⟨rfl, rfl⟩
  · left
    have nn : ¬ x < 0 := by
      rw [i32le, Int32.le_iff_toInt_le]
      rw [Int32.le_iff_toInt_le, nI_toInt (by omega)] at h
      have : (0 : Int32).toInt = 0 := rfl
      omega
    rw [if_neg nn, if_pos h, if_neg nn, if_pos ((bnd_lt h1 (by omega) x).mpr h)]
    exact ⟨rfl, rfl⟩
  · right
    refine ⟨j, hj, rfl, ?_, ?_⟩
    · rw [if_neg (nI_pos (by omega)), if_neg (nI_ge hj (by omega))]
    · rw [if_neg (nI_pos (by omega)), if_neg (nI_nlt (by omega) (by omega))]
theorem gV_land (v : iV C M m g A H Sh W) (x : Int32) : (f5_isLand 37 C x = 0 ∧ f7_isLand M x = 0) ∨ ∃ l, l < m ∧ x = nI l ∧ f5_isLand 37 C x = 1 ∧ f7_isLand M x = 1 := by
  obtain ⟨v1, v2, v3, v4, v5, v6, v7⟩ := v
  unfold f5_isLand f7_isLand
  rw [v2.1, v5.1]
  exact g_ix v1.1.1 (by have := v1.1; omega) x
theorem gV_good (v : iV C M m g A H Sh W) (x : Int32) : (f5_isGood 37 C x = 0 ∧ f7_isGood M x = 0) ∨ ∃ l, l < g ∧ x = nI l ∧ f5_isGood 37 C x = 1 ∧ f7_isGood M x = 1 := by
  obtain ⟨v1, v2, v3, v4, v5, v6, v7⟩ := v
  unfold f5_isGood f7_isGood
  rw [v2.2.1, v5.2.1]
  exact g_ix v1.2.1.1 (by have := v1.2.1; omega) x
theorem gN_ix (x : Int32) : (if x < 0 then (0 : Int32) else if (0 : Int32) ≤ x then 0 else 1) = 0 ∧ f7_in x.toInt64 0 (((0 : Int32) - 1).toInt64) = 0 := by
  have e : (0 : Int64) = (0 : Int32).toInt64 := rfl
  rw [e, inI]
  by_cases c : x < 0
  · rw [if_pos c, if_pos c]
    exact ⟨rfl, rfl⟩
  · rw [if_neg c, if_neg c, if_pos ((i32le x 0).mp c), if_pos ?_]
    · exact ⟨rfl, rfl⟩
    · have := (i32le x 0).mp c
      rw [Int32.le_iff_toInt_le] at this
      rw [Int32.lt_iff_toInt_lt]
      have e1 : (0 : Int32).toInt = 0 := rfl
      have e2 : ((0 : Int32) - 1).toInt = -1 := by decide
      omega
theorem gN_land (v : iN C M) (x : Int32) : f5_isLand 37 C x = 0 ∧ f7_isLand M x = 0 := by
  unfold f5_isLand f7_isLand
  rw [v.1, v.2.2.1]
  exact gN_ix x
theorem gN_good (v : iN C M) (x : Int32) : f5_isGood 37 C x = 0 ∧ f7_isGood M x = 0 := by
  unfold f5_isGood f7_isGood
  rw [v.2.1, v.2.2.2.1]
  exact gN_ix x
theorem p7_every (D : dat m g A H Sh) (v : mW M m g A H Sh) : f7_every M = nI (2 ^ m - 1) := by
  unfold f7_every
  rw [v.1]
  exact bt_all m D.1.2
theorem p7_priceE (D : dat m g A H Sh) (v : mW M m g A H Sh) {R : Nat → Nat} (G : cG M 11 3 R) {q : Nat} (hq : q < g) : f7_priceOf M (f7_every M) (nI q) = some (lN (lst (m - 1) (fun k => R k * A k q))) := by
  have d1 := D.1
  have p8 := pw8 d1.2
  rw [p7_every D v, p7_priceOf D v (fun l hl => G l (by omega)) (by omega) hq, lsT_full d1]
  rfl
theorem p7_makersE (D : dat m g A H Sh) (v : mW M m g A H Sh) {R : Nat → Nat} (G : cG M 11 3 R) {q : Nat} (hq : q < g) : f7_makersOf M (f7_every M) (nI q) = some (nI (mkrs m A R q)) := by
  have d1 := D.1
  have p8 := pw8 d1.2
  rw [p7_every D v, p7_makersOf D v (fun l hl => G l (by omega)) (by omega) hq, mkT_full d1]
/-- both worlds after restAll, with what follows of two rests -/
theorem II_two (h : II C M) (v : iV C M m g A H Sh W) : ∃ M' R, f7_restAll M = some M' ∧ II C M' ∧ iV C M' m g A H Sh W ∧ mfa M M' ∧ cG M' 11 3 R ∧ (∀ l, l < m → 1 ≤ R l) ∧ restN m g A H Sh R := by
  obtain ⟨M', R, a1, a2, a3, a4, a5, a6, a7⟩ := II_rest h v
  exact ⟨M', R, a1, a2, a3, a4, a5, a7.1, a7⟩
end GT
