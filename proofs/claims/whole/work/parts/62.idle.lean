/-! idleBy: the least set that has more than its goods get -/
/-- the makers' bits of each good -/
def mkrs (m : Nat) (A : Nat → Nat → Nat) (W : Nat → Nat) (q : Nat) : Nat := mkb m (fun l => W l * A l q)
/-- set t is within what its goods get -/
def okN (m g : Nat) (A : Nat → Nat → Nat) (H Sh W : Nat → Nat) (t : Nat) : Prop := incN m H W t * ns g Sh ≤ incN m H W (2 ^ m - 1) * gtsN g (mkrs m A W) Sh t
/-- r is what idleBy answers -/
def idle (m g : Nat) (A : Nat → Nat → Nat) (H Sh W : Nat → Nat) (r : Nat) : Prop := (r = 0 ∧ ∀ t, 1 ≤ t → t < 2 ^ m → okN m g A H Sh W t) ∨ (1 ≤ r ∧ r < 2 ^ m ∧ ¬ okN m g A H Sh W r ∧ ∀ t, 1 ≤ t → t < r → okN m g A H Sh W t)
theorem idle_one {m g : Nat} {A : Nat → Nat → Nat} {H Sh W : Nat → Nat} {r r' : Nat} (h : idle m g A H Sh W r) (h' : idle m g A H Sh W r') : r = r' := by
  rcases h with ⟨h1, h2⟩ | ⟨h1, h2, h3, h4⟩ <;> rcases h' with ⟨k1, k2⟩ | ⟨k1, k2, k3, k4⟩
  · omega
  · exact absurd (h2 r' k1 k2) k3
  · exact absurd (k2 r h1 h2) h3
  · rcases Nat.lt_or_ge r r' with q | q
    · exact absurd (k4 r h1 q) h3
    · rcases Nat.lt_or_ge r' r with q2 | q2
      · exact absurd (h4 r' k1 q2) k3
      · omega
/-- as before but for cell k -/
def but (S S' : Zs) (k : Nat) : Prop := S'.2 = S.2 ∧ ∀ a b, a ≠ k → S'.1 a b = S.1 a b
theorem but.rf {S : Zs} {k : Nat} : but S S k := ⟨rfl, fun _ _ _ => rfl⟩
theorem but.tr {S S' S'' : Zs} {k : Nat} (h : but S S' k) (h' : but S' S'' k) : but S S'' k := ⟨h'.1.trans h.1, fun a b e => (h'.2 a b e).trans (h.2 a b e)⟩
theorem but.put {S : Zs} {k j : Nat} {v : Int32} : but S (zI S k j v) k := ⟨rfl, fun a b e => by rw [zI_rd, if_neg (fun q => e q.1)]⟩
theorem cW_but {S S' : Zs} {o m g k : Nat} {A : Nat → Nat → Nat} {H Sh : Nat → Nat} (C : cW S o m g A H Sh) (h : but S S' k) (k0 : o ≠ k) (k1 : o + 1 ≠ k) (k2 : o + 2 ≠ k) (k3 : ∀ l, l < m → o + 4 + l ≠ k) : cW S' o m g A H Sh :=
  ⟨by rw [h.2 _ _ k0]; exact C.1, by rw [h.2 _ _ k0]; exact C.2.1, fun q hq => by rw [h.2 _ _ k1]; exact C.2.2.1 q hq, fun l hl => by rw [h.2 _ _ k2]; exact C.2.2.2.1 l hl, fun l q hl hq => by rw [h.2 _ _ (k3 l hl)]; exact C.2.2.2.2 l q hl hq⟩
theorem cG_but {S S' : Zs} {w m k : Nat} {W : Nat → Nat} (G : cG S w m W) (h : but S S' k) : cG S' w m W := fun l hl => by rw [h.1]; exact G l hl
section P5c
variable {S : Zs} {o w m g : Nat} {A : Nat → Nat → Nat} {H Sh W : Nat → Nat}
theorem pw8 {m : Nat} (h : m ≤ 3) : 2 ^ m ≤ 8 := by
  rcases (show m = 0 ∨ m = 1 ∨ m = 2 ∨ m = 3 by omega) with rfl | rfl | rfl | rfl <;> decide
theorem ns_sh (D : dat m g A H Sh) : ns g Sh ≤ 120 := by
  have d2 := D.2.1
  have : ns g Sh ≤ g * 20 := ns_le (fun q hq => (D.2.2.2.1 q hq).2)
  omega
theorem p5_idle_srch (D : dat m g A H Sh) (C : cW S o m g A H Sh) (G : cG S w m W) (hb : ∀ q, q < g → S.1 (o + 8) q = nI (mkrs m A W q)) : ∀ n t, 1 ≤ t → t ≤ 2 ^ m → 2 ^ m - t < n → (∀ u, 1 ≤ u → u < t → okN m g A H Sh W u) → ∃ r, idle m g A H Sh W r ∧ f5_idleBy_48 o w n (lN (ns g Sh)) (lN (incN m H W (2 ^ m - 1))) (nI t) S = some (nI r, S) := by
  have d1 := D.1
  have p8 := pw8 d1.2
  intro n
  induction n with
  | zero => intro t _ _ h; omega
  | succ n ih =>
    intro t t1 t2 h hu
    rw [f5_idleBy_48]
    dsimp only
    rw [p5_allLands D C]
    by_cases e : 2 ^ m ≤ t
    · rw [if_pos (nI_lt (by omega) (by omega))]
      exact ⟨0, Or.inl ⟨rfl, fun u h1 h2 => hu u h1 (by omega)⟩, rfl⟩
    · rw [if_neg (nI_nlt (by omega) (by omega)), p5_incomeOf D C G (by omega), bd1s, p5_sharesFor D C (fun q hq => ⟨hb q hq, mkb_lt⟩) (by omega), bd1s, lN_mul, lN_mul]
      have b1 := incN_le (t := t) D G
      have b2 := incN_le (t := 2 ^ m - 1) D G
      have b3 := ns_sh D
      have b4 := gtsN_le (b := mkrs m A W) (t := t) D
      have m1 : incN m H W t * ns g Sh ≤ 3000000000 * 120 := Nat.mul_le_mul b1 b3
      have m2 : incN m H W (2 ^ m - 1) * gtsN g (mkrs m A W) Sh t ≤ 3000000000 * 120 := Nat.mul_le_mul b2 b4
      by_cases c : okN m g A H Sh W t
      · rw [if_pos ((pk_lLE (by omega) (by omega)).mpr c), ltt, show nI t + 1 = nI (t + 1) from nI_1 _]
        exact ih (t + 1) (by omega) (by omega) (by omega) (fun u h1 h2 => by
          by_cases e2 : u = t
          · rw [e2]; exact c
          · exact hu u h1 (by omega))
      · rw [if_neg (fun k => c ((pk_lLE (by omega) (by omega)).mp k))]
        exact ⟨t, Or.inr ⟨t1, by omega, c, hu⟩, rfl⟩
theorem p5_idleBy (hw9 : True) (D : dat m g A H Sh) (C : cW S o m g A H Sh) (G : cG S w m W) : ∃ r S', idle m g A H Sh W r ∧ f5_idleBy o w S = some (nI r, S') ∧ but S S' (o + 8) := by
  have d1 := D.1
  have d2 := D.2.1
  have key : ∀ n j (S1 : Zs), j ≤ g → g - j < n → but S S1 (o + 8) → (∀ q, q < j → S1.1 (o + 8) q = nI (mkrs m A W q)) → ∃ r S', idle m g A H Sh W r ∧ f5_idleBy_2 o w n (nI j) S1 = some (nI r, S') ∧ but S S' (o + 8) := by
    intro n
    induction n with
    | zero => intro j S1 _ h; omega
    | succ n ih =>
      intro j S1 hj h hB hb
      have C1 : cW S1 o m g A H Sh := cW_but C hB (by omega) (by omega) (by omega) (fun l hl => by omega)
      have G1 : cG S1 w m W := cG_but G hB
      rw [f5_idleBy_2]
      dsimp only
      rw [C1.2.1]
      by_cases e : g ≤ j
      · have p8 := pw8 d1.2
        have b3 := ns_sh D
        have hp : 1 ≤ 2 ^ m := Nat.one_le_two_pow
        rw [if_pos (nI_le e (by omega)), p5_allShares D C1, bd1s, ltt, p5_allLands D C1, p5_incomeOf D C1 G1 (by omega), bd1s, nI_l (by omega)]
        obtain ⟨r, hr, he⟩ := p5_idle_srch D C1 G1 (fun q hq => hb q (by omega)) fuel0 1 (Nat.le_refl _) hp (by unfold fuel0; omega) (fun u h1 h2 => by omega)
        exact ⟨r, S1, hr, he, hB⟩
      · rw [if_neg (nI_ge (by omega) (by omega)), p5_makersBy D C1 G1 (by omega), bd1s, if_pos (inb_nI (by omega) (by decide)), ltt, ltt, nI_clamp (by omega), show nI j + 1 = nI (j + 1) from nI_1 _]
        refine ih (j + 1) _ (by omega) (by omega) (hB.tr but.put) (fun q hq => ?_)
        rw [zI_rd]
        by_cases e2 : q = j
        · rw [if_pos ⟨rfl, e2⟩, e2]
          rfl
        · rw [if_neg (fun k => e2 k.2)]
          exact hb q (by omega)
  exact key fuel0 0 S (by omega) (by unfold fuel0; omega) but.rf (fun q h => by omega)
end P5c
