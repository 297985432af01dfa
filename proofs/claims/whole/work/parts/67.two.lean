/-! settleTwo and cut -/
section PT
variable {S : Zs} {o g : Nat} {f s Sh : Nat → Nat} {h1 h2 : Nat}
theorem p0_allShares (P : pD S o g f s Sh h1 h2) : f0_allShares o S = some (lN (ns g Sh)) := by
  have d2 := P.2.1
  have key : ∀ n j, j ≤ g → g - j < n → f0_allShares_4 o S n (lN (ns j Sh)) (nI j) = some (lN (ns g Sh)) := by
    intro n
    induction n with
    | zero => intro j _ h; omega
    | succ n ih =>
      intro j hj h
      rw [f0_allShares_4]
      dsimp only
      rw [P.1]
      by_cases e : g ≤ j
      · rw [if_pos (nI_le e (by omega)), show j = g by omega]
      · have b := P.2.2.1 j (by omega)
        rw [if_neg (nI_ge (by omega) (by omega)), if_pos (inb_nI (by omega) (by decide)), ltt, ltt, nI_clamp (by omega), b.1, nI_l (by omega), lN_add, show nI j + 1 = nI (j + 1) from nI_1 _]
        exact ih (j + 1) (by omega) (by omega)
  exact key fuel0 0 (by omega) (by unfold fuel0; omega)
theorem pD_sh (P : pD S o g f s Sh h1 h2) : ns g Sh ≤ 120 := by
  have d2 := P.2.1
  have : ns g Sh ≤ g * 20 := ns_le (fun q hq => (P.2.2.1 q hq).2.2)
  omega
theorem p0_settleTwo (P : pD S o g f s Sh h1 h2) {od : Nat → Nat} (ho : ∀ i, i < g → S.1 (o + 4) i = nI (od i)) (hs : srt g f s od) : ∃ w1 w2, f0_settleTwo o S = some (zL (zL S o 7 (lN w1)) o 8 (lN w2)) ∧ prest g f s Sh h1 h2 w1 w2 ∧ w1 ≤ 11880 ∧ w2 ≤ 480000 := by
  have d2 := P.2.1
  obtain ⟨p1, p2, p3, p4, p5, p6, p7⟩ := P
  have P : pD S o g f s Sh h1 h2 := ⟨p1, p2, p3, p4, p5, p6, p7⟩
  have bsh := pD_sh P
  have pre : ∀ k, k ≤ g → ns k (fun i => Sh (od i)) ≤ ns g Sh := by
    intro k hk
    rw [← hs.2.2 Sh, ← ns_pre hk]
    exact ns_mono (fun i hi => by split <;> omega)
  have fin : ∀ k, k < g → 1 ≤ k → h1 * s (od k) * ns g Sh < ns k (fun i => Sh (od i)) * (h1 * s (od k) + h2 * f (od k)) → ns k (fun i => Sh (od i)) * (h1 * s (od (k - 1)) + h2 * f (od (k - 1))) < h1 * s (od (k - 1)) * ns g Sh → ∃ w1 w2, f0_settleTwo_135 o (lN (ns g Sh)) (lN (ns k (fun i => Sh (od i)))) S = some (zL (zL S o 7 (lN w1)) o 8 (lN w2)) ∧ prest g f s Sh h1 h2 w1 w2 ∧ w1 ≤ 11880 ∧ w2 ≤ 480000 := by
    intro k hk k1 c1 c2
    obtain ⟨rm, e1, e2, e3⟩ := set_cut hs (fun q hq => (p4 q hq).2.1) (fun q hq => (p5 q hq).2.1) (fun q hq => (p3 q hq).2.1) p6.2.1 p7.2.1 hk k1 c1 c2
    refine ⟨_, _, ?_, e3, ?_, ?_⟩
    · unfold f0_settleTwo_135
      rw [ltt, ltt, lN_sub (pre k (by omega)), show ns g Sh - ns k (fun i => Sh (od i)) = rm by omega, p7.1]
      rw [zL_rd, if_neg (fun q => by omega), p6.1, lN_mul, lN_mul]
    · exact Nat.le_trans (Nat.mul_le_mul (show _ ≤ 120 by have := pre k (by omega); omega) p7.2.2) (by decide)
    · exact Nat.le_trans (Nat.mul_le_mul (show rm ≤ 120 by omega) p6.2.2) (by decide)
  have key : ∀ n k, k ≤ g → g - k < n → (∀ i, i < k → ns (i + 1) (fun i => Sh (od i)) * (h1 * s (od i) + h2 * f (od i)) < h1 * s (od i) * ns g Sh) → ∃ w1 w2, f0_settleTwo_10 o n (lN (ns g Sh)) (lN (ns k (fun i => Sh (od i)))) (nI k) S = some (zL (zL S o 7 (lN w1)) o 8 (lN w2)) ∧ prest g f s Sh h1 h2 w1 w2 ∧ w1 ≤ 11880 ∧ w2 ≤ 480000 := by
    intro n
    induction n with
    | zero => intro k _ h; omega
    | succ n ih =>
      intro k hk hn hi
      by_cases e : g ≤ k
      · exfalso
        have h9 := hi (g - 1) (by omega)
        rw [show g - 1 + 1 = g by omega, hs.2.2 Sh] at h9
        have : ns g Sh * (h1 * s (od (g - 1))) ≤ ns g Sh * (h1 * s (od (g - 1)) + h2 * f (od (g - 1))) := Nat.mul_le_mul_left _ (by omega)
        rw [Nat.mul_comm (ns g Sh) (h1 * s (od (g - 1)))] at this
        omega
      · have ok := hs.1 k (by omega)
        obtain ⟨f1, f2, f3⟩ := p4 _ ok
        obtain ⟨s1, s2, s3⟩ := p5 _ ok
        obtain ⟨t1, t2, t3⟩ := p3 _ ok
        rw [f0_settleTwo_10]
        dsimp only
        rw [p1, if_neg (nI_ge (by omega) (by omega)), if_pos (inb_nI (by omega) (by decide)), ltt, nI_clamp (show k < 2 ^ 31 by omega), ho k (by omega), if_pos (inb_nI (by omega) (by decide)), ltt, if_pos (inb_nI (by omega) (by decide)), ltt, nI_clamp (show od k < 2 ^ 31 by omega), if_pos (inb_nI (by omega) (by decide)), if_pos (inb_nI (by omega) (by decide)), if_pos (inb_nI (by omega) (by decide)), p6.1, p7.1, f1, s1, t1, nI_l (by omega)]
        simp only [lN_mul, lN_add]
        have b1 : h1 * s (od k) ≤ 4000 * 20 := Nat.mul_le_mul p6.2.2 s3
        have b2 : h2 * f (od k) ≤ 99 * 400 := Nat.mul_le_mul p7.2.2 f3
        have b3 := pre k (by omega)
        have b4 : h1 * s (od k) * ns g Sh ≤ 80000 * 120 := Nat.mul_le_mul b1 bsh
        have b5 : ns k (fun i => Sh (od i)) * (h1 * s (od k) + h2 * f (od k)) ≤ 120 * 119600 := Nat.mul_le_mul (by omega) (by omega)
        have b6 : (ns k (fun i => Sh (od i)) + Sh (od k)) * (h1 * s (od k) + h2 * f (od k)) ≤ 140 * 119600 := Nat.mul_le_mul (by omega) (by omega)
        by_cases c1 : ns k (fun i => Sh (od i)) * (h1 * s (od k) + h2 * f (od k)) ≤ h1 * s (od k) * ns g Sh
        · rw [if_pos ((pk_lLE (by omega) (by omega)).mpr c1)]
          by_cases c2 : (ns k (fun i => Sh (od i)) + Sh (od k)) * (h1 * s (od k) + h2 * f (od k)) < h1 * s (od k) * ns g Sh
          · rw [if_pos ((pk_lLT (by omega) (by omega)).mpr c2), ltt, ltt, show nI k + 1 = nI (k + 1) from nI_1 _]
            refine ih (k + 1) (by omega) (by omega) (fun i hik => ?_)
            by_cases c9 : i = k
            · rw [c9]; exact c2
            · exact hi i (by omega)
          · rw [if_neg (fun q => c2 ((pk_lLT (by omega) (by omega)).mp q)), ltt, if_pos (inb_nI (by omega) (by decide)), ltt]
            refine ⟨_, _, ?_, set_tie hs (fun q hq => (p4 q hq).2.1) (fun q hq => (p5 q hq).2.1) (show k < g by omega) c1 (by omega), by omega, by omega⟩
            rw [zL_rd, if_neg (fun q => by omega), f1]
        · rw [if_neg (fun q => c1 ((pk_lLE (by omega) (by omega)).mp q))]
          by_cases k0 : k = 0
          · exfalso
            subst k0
            have : ns 0 (fun i => Sh (od i)) = 0 := rfl
            rw [this] at c1
            omega
          · have h9 := hi (k - 1) (by omega)
            rw [show k - 1 + 1 = k by omega] at h9
            exact fin k (by omega) (by omega) (by omega) h9
  unfold f0_settleTwo
  rw [p0_allShares P, bd1s]
  exact key fuel0 0 (by omega) (by unfold fuel0; omega) (fun i h => by omega)
/-- 2 * (goods that the first alone makes) + (is there one that both make) -/
theorem p0_cut (P : pD S o g f s Sh h1 h2) {w1 w2 : Nat} (e1 : S.2 o 7 = lN w1) (e2 : S.2 o 8 = lN w2) (b1 : w1 ≤ 1000000) (b2 : w2 ≤ 1000000) : f0_cut o S = some (nI (2 * ns g (fun q => if f q * w1 < s q * w2 then 1 else 0) + (if ∃ q, q < g ∧ f q * w1 = s q * w2 then 1 else 0))) := by
  have d2 := P.2.1
  have key : ∀ n j, j ≤ g → g - j < n → f0_cut_6 o S n (nI (ns j (fun q => if f q * w1 < s q * w2 then 1 else 0))) (nI (if ∃ q, q < j ∧ f q * w1 = s q * w2 then 1 else 0)) (nI j) = some (nI (2 * ns g (fun q => if f q * w1 < s q * w2 then 1 else 0) + (if ∃ q, q < g ∧ f q * w1 = s q * w2 then 1 else 0))) := by
    intro n
    induction n with
    | zero => intro j _ h; omega
    | succ n ih =>
      intro j hj h
      rw [f0_cut_6]
      dsimp only
      rw [P.1]
      by_cases e : g ≤ j
      · rw [if_pos (nI_le e (by omega)), show j = g by omega, show (2 : Int32) = nI 2 from rfl, pk_mul, nI_add]
      · obtain ⟨f1, f2, f3⟩ := P.2.2.2.1 j (by omega)
        obtain ⟨s1, s2, s3⟩ := P.2.2.2.2.1 j (by omega)
        rw [if_neg (nI_ge (by omega) (by omega)), if_pos (inb_nI (by omega) (by decide)), ltt, if_pos (inb_nI (by omega) (by decide)), ltt, nI_clamp (show j < 2 ^ 31 by omega), f1, s1, e1, e2, lN_mul, lN_mul]
        have m1 : f j * w1 ≤ 400 * 1000000 := Nat.mul_le_mul f3 b1
        have m2 : s j * w2 ≤ 20 * 1000000 := Nat.mul_le_mul s3 b2
        have ih' := ih (j + 1) (by omega) (by omega)
        have n1 : ns (j + 1) (fun q => if f q * w1 < s q * w2 then 1 else 0) = ns j (fun q => if f q * w1 < s q * w2 then 1 else 0) + (if f j * w1 < s j * w2 then 1 else 0) := rfl
        rw [n1] at ih'
        by_cases c1 : f j * w1 < s j * w2
        · rw [if_pos c1] at ih'
          have n2 : (if ∃ q, q < j + 1 ∧ f q * w1 = s q * w2 then 1 else 0) = (if ∃ q, q < j ∧ f q * w1 = s q * w2 then 1 else 0) := by
            have : (∃ q, q < j + 1 ∧ f q * w1 = s q * w2) ↔ ∃ q, q < j ∧ f q * w1 = s q * w2 := ⟨fun ⟨q, h1, h2⟩ => ⟨q, by
              by_cases c : q = j
              · rw [c] at h2; omega
              · omega, h2⟩, fun ⟨q, h1, h2⟩ => ⟨q, by omega, h2⟩⟩
            simp only [this]
          rw [n2] at ih'
          rw [if_neg (fun q => by have := (pk_lLE (by omega) (by omega)).mp q; omega), ltt]
          unfold f0_cut_64
          rw [ltt, show nI j + 1 = nI (j + 1) from nI_1 _, show ∀ x, nI x + (1 : Int32) = nI (x + 1) from fun x => nI_1 x]
          exact ih'
        · rw [if_neg c1] at ih'
          rw [if_pos ((pk_lLE (by omega) (by omega)).mpr (by omega))]
          by_cases c2 : f j * w1 = s j * w2
          · rw [if_pos ⟨j, by omega, c2⟩] at ih'
            rw [if_pos (by rw [c2])]
            unfold f0_cut_64
            rw [ltt, show nI j + 1 = nI (j + 1) from nI_1 _]
            exact ih'
          · have n2 : (if ∃ q, q < j + 1 ∧ f q * w1 = s q * w2 then 1 else 0) = (if ∃ q, q < j ∧ f q * w1 = s q * w2 then 1 else 0) := by
              have : (∃ q, q < j + 1 ∧ f q * w1 = s q * w2) ↔ ∃ q, q < j ∧ f q * w1 = s q * w2 := ⟨fun ⟨q, h1, h2⟩ => ⟨q, by
                by_cases c : q = j
                · rw [c] at h2; omega
                · omega, h2⟩, fun ⟨q, h1, h2⟩ => ⟨q, by omega, h2⟩⟩
              simp only [this]
            rw [n2] at ih'
            rw [if_neg (fun q => c2 ((pk_lEQ (by omega) (by omega)).mp q))]
            unfold f0_cut_64
            rw [ltt, show nI j + 1 = nI (j + 1) from nI_1 _]
            exact ih'
  have := key fuel0 0 (by omega) (by unfold fuel0; omega)
  rw [if_neg (fun ⟨q, h, _⟩ => by omega)] at this
  exact this
end PT
