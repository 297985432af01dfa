/-! PURE: the functions' values in naturals -/
theorem inb_nI {n N : Nat} (h : n < N) (hN : N < 2 ^ 31) : inb (nI n) N = true := by
  unfold inb
  exact decide_eq_true (vp_in_nI h hN)
theorem ltt {α β : Type} (x : α) (F : α → β) : lt_ x F = F x := rfl
theorem bd1s {α γ : Type} (a : α) (k : α → Option γ) : bd1 (some a) k = k a := rfl
theorem bd2s {α β γ : Type} (a : α) (b : β) (k : α → β → Option γ) : bd2 (some (a, b)) k = k a b := rfl
theorem nIle {a b : Nat} (ha : a < 2 ^ 31) (hb : b < 2 ^ 31) : (nI a ≤ nI b) = (a ≤ b) := propext (nI_leI ha hb)
theorem nIlt {a b : Nat} (ha : a < 2 ^ 31) (hb : b < 2 ^ 31) : (nI a < nI b) = (a < b) := propext (nI_ltI ha hb)
theorem nIeq {a b : Nat} (ha : a < 2 ^ 31) (hb : b < 2 ^ 31) : (nI a = nI b) = (a = b) := propext (nI_eq ha hb)
theorem lNle {a b : Nat} (ha : a < 2 ^ 63) (hb : b < 2 ^ 63) : (lN a ≤ lN b) = (a ≤ b) := propext (pk_lLE ha hb)
theorem lNlt {a b : Nat} (ha : a < 2 ^ 63) (hb : b < 2 ^ 63) : (lN a < lN b) = (a < b) := propext (pk_lLT ha hb)
theorem lNeq {a b : Nat} (ha : a < 2 ^ 63) (hb : b < 2 ^ 63) : (lN a = lN b) = (a = b) := propext (pk_lEQ ha hb)
theorem zI_rd (S : Zs) (k j : Nat) (v : Int32) (a b : Nat) : (zI S k j v).1 a b = if a = k ∧ b = j then v else S.1 a b := rfl
theorem zI_2 (S : Zs) (k j : Nat) (v : Int32) : (zI S k j v).2 = S.2 := rfl
theorem zL_rd (S : Zs) (k j : Nat) (v : Int64) (a b : Nat) : (zL S k j v).2 a b = if a = k ∧ b = j then v else S.2 a b := rfl
theorem zL_1 (S : Zs) (k j : Nat) (v : Int64) : (zL S k j v).1 = S.1 := rfl
/-- the data of a world: bounds -/
def dat (m g : Nat) (A : Nat → Nat → Nat) (H Sh : Nat → Nat) : Prop := (1 ≤ m ∧ m ≤ 3) ∧ (1 ≤ g ∧ g ≤ 6) ∧ (∀ l, l < m → 1 ≤ H l ∧ H l ≤ 99) ∧ (∀ q, q < g → 1 ≤ Sh q ∧ Sh q ≤ 20) ∧ ∀ l q, l < m → q < g → 1 ≤ A l q ∧ A l q ≤ 20
/-- the class's World at o holds them -/
def cW (S : Zs) (o m g : Nat) (A : Nat → Nat → Nat) (H Sh : Nat → Nat) : Prop := S.1 o 0 = nI m ∧ S.1 o 1 = nI g ∧ (∀ q, q < g → S.1 (o + 1) q = nI (Sh q)) ∧ (∀ l, l < m → S.1 (o + 2) l = nI (H l)) ∧ ∀ l q, l < m → q < g → S.1 (o + 4 + l) q = nI (A l q)
/-- a row of wages at cell w -/
def cG (S : Zs) (w m : Nat) (W : Nat → Nat) : Prop := ∀ l, l < m → S.2 w l = lN (W l) ∧ W l ≤ 10000000
/-- the least of c 0 .. c n -/
def lst : Nat → (Nat → Nat) → Nat
  | 0, c => c 0
  | n + 1, c => if c (n + 1) < lst n c then c (n + 1) else lst n c
theorem lst_le {n : Nat} {c : Nat → Nat} : ∀ i, i ≤ n → lst n c ≤ c i := by
  induction n with
  | zero => intro i hi; rw [show i = 0 by omega]; exact Nat.le_refl _
  | succ n ih =>
    intro i hi
    show (if c (n + 1) < lst n c then c (n + 1) else lst n c) ≤ c i
    by_cases e : i = n + 1
    · subst e
      split <;> omega
    · have := ih i (by omega)
      split <;> omega
theorem lst_in {n : Nat} {c : Nat → Nat} : ∃ i, i ≤ n ∧ lst n c = c i := by
  induction n with
  | zero => exact ⟨0, Nat.le_refl _, rfl⟩
  | succ n ih =>
    show ∃ i, i ≤ n + 1 ∧ (if c (n + 1) < lst n c then c (n + 1) else lst n c) = c i
    split
    · exact ⟨n + 1, Nat.le_refl _, rfl⟩
    · obtain ⟨i, hi, e⟩ := ih
      exact ⟨i, by omega, e⟩
/-- who has the least, as bits (m lands) -/
def mkb (m : Nat) (c : Nat → Nat) : Nat := (if c 0 = lst (m - 1) c then 1 else 0) + (if 1 < m ∧ c 1 = lst (m - 1) c then 2 else 0) + (if 2 < m ∧ c 2 = lst (m - 1) c then 4 else 0)
theorem mkb_lt {m : Nat} {c : Nat → Nat} : mkb m c < 8 := by
  unfold mkb
  split <;> split <;> split <;> omega
section P5
variable {S : Zs} {o w m g : Nat} {A : Nat → Nat → Nat} {H Sh W : Nat → Nat}
theorem p5_cost (D : dat m g A H Sh) (C : cW S o m g A H Sh) (G : cG S w m W) {l q : Nat} (hl : l < m) (hq : q < g) : f5_cost o w S (nI l) (nI q) = some (lN (W l * A l q)) := by
  obtain ⟨⟨d1, d2⟩, ⟨d3, d4⟩, d5, d6, d7⟩ := D
  have b := d7 l q hl hq
  unfold f5_cost
  rw [if_pos (inb_nI (by omega) (by decide)), if_pos (inb_nI (by omega) (by decide)), if_pos (inb_nI (by omega) (by decide)), nI_clamp (by omega), nI_clamp (by omega), C.2.2.2.2 l q hl hq, (G l hl).1, nI_l (by omega), lN_mul]
theorem costb (D : dat m g A H Sh) (G : cG S w m W) {l q : Nat} (hl : l < m) (hq : q < g) : W l * A l q ≤ 200000000 := by
  have b := D.2.2.2.2 l q hl hq
  have b2 := (G l hl).2
  exact Nat.mul_le_mul b2 b.2
theorem p5_least_loop (D : dat m g A H Sh) (C : cW S o m g A H Sh) (G : cG S w m W) {q : Nat} (hq : q < g) : ∀ n l, l < m → m - l < n + 1 → f5_leastCost_11 o w S (n + 1) (nI q) (lN (lst l (fun l => W l * A l q))) (nI (l + 1)) = some (lN (lst (m - 1) (fun l => W l * A l q))) := by
  intro n
  induction n with
  | zero => intro l hl h; omega
  | succ n ih =>
    intro l hl h
    have d1 := D.1
    unfold f5_leastCost_11
    rw [C.1]
    by_cases e : m ≤ l + 1
    · rw [if_pos (nI_le e (by omega)), show m - 1 = l by omega]
    · rw [if_neg (nI_ge (by omega) (by omega)), p5_cost D C G (by omega) hq, bd1s, ltt, ltt]
      obtain ⟨i, hi, ei⟩ := lst_in (n := l) (c := fun l => W l * A l q)
      have b1 := costb D G (l := l + 1) (by omega) hq
      have b2 := costb D G (l := i) (by omega) hq
      have b3 : lst l (fun l => W l * A l q) ≤ 200000000 := by rw [ei]; exact b2
      rw [show nI (l + 1) + 1 = nI (l + 1 + 1) from nI_1 _]
      rw [← ih (l + 1) (by omega) (by omega)]
      congr 1
      show _ = lN (if (W (l + 1) * A (l + 1) q) < lst l (fun l => W l * A l q) then W (l + 1) * A (l + 1) q else lst l (fun l => W l * A l q))
      by_cases c : (W (l + 1) * A (l + 1) q) < lst l (fun l => W l * A l q)
      · rw [if_pos c, if_pos ((pk_lLT (by omega) (by omega)).mpr c)]
      · rw [if_neg c, if_neg (fun k => c ((pk_lLT (by omega) (by omega)).mp k))]
theorem p5_leastCost (D : dat m g A H Sh) (C : cW S o m g A H Sh) (G : cG S w m W) {q : Nat} (hq : q < g) : f5_leastCost o w S (nI q) = some (lN (lst (m - 1) (fun l => W l * A l q))) := by
  have := D.1
  unfold f5_leastCost
  rw [show (0 : Int32) = nI 0 from rfl, p5_cost D C G (by omega) hq, bd1s]
  exact p5_least_loop D C G hq 999 0 (by omega) (by omega)
end P5
