/-! settle: wages at rest -/
theorem pair_rest {g : Nat} {A : Nat → Nat → Nat} {H Sh W : Nat → Nat} (h : prest g (fun q => A 0 q) (fun q => A 1 q) Sh (H 0) (H 1) (W 0) (W 1)) : restN 2 g A H Sh W := by
  obtain ⟨p1, p2, p3, p4⟩ := h
  have hm : 1 ≤ 2 ∧ 2 ≤ 3 := by omega
  have iAll : incN 2 H W (2 ^ 2 - 1) = H 0 * W 0 + H 1 * W 1 := by
    show 0 + H 0 * W 0 + H 1 * W 1 = _
    omega
  refine ⟨fun l hl => ?_, fun t ht => ?_⟩
  · rcases (show l = 0 ∨ l = 1 by omega) with rfl | rfl
    · exact p1
    · exact p2
  · rcases (show t = 0 ∨ t = 1 ∨ t = 2 ∨ t = 3 by omega) with rfl | rfl | rfl | rfl
    · exact okN_0
    · have e1 : incN 2 H W 1 = H 0 * W 0 := by
        show 0 + H 0 * W 0 + 0 = _
        omega
      have e2 := gts_if (Sh := Sh) (m := 2) (g := g) (A := A) (W := W) (t := 1) (B := fun q => A 0 q * W 0 ≤ A 1 q * W 1) (fun q hq => by
        rw [nz_iff hm, Nat.mul_comm (A 0 q), Nat.mul_comm (A 1 q)]
        constructor
        · rintro ⟨l, hl, tl, k⟩
          rcases (show l = 0 ∨ l = 1 by omega) with rfl | rfl
          · exact k 1 (by omega)
          · exact absurd tl (by decide)
        · intro k
          refine ⟨0, by omega, by decide, fun x hx => ?_⟩
          rcases (show x = 0 ∨ x = 1 by omega) with rfl | rfl
          · exact Nat.le_refl _
          · exact k)
      unfold okN
      rw [e1, e2, iAll]
      exact p3
    · have e1 : incN 2 H W 2 = H 1 * W 1 := by
        show 0 + 0 + H 1 * W 1 = _
        omega
      have e2 := gts_if (Sh := Sh) (m := 2) (g := g) (A := A) (W := W) (t := 2) (B := fun q => A 1 q * W 1 ≤ A 0 q * W 0) (fun q hq => by
        rw [nz_iff hm, Nat.mul_comm (A 0 q), Nat.mul_comm (A 1 q)]
        constructor
        · rintro ⟨l, hl, tl, k⟩
          rcases (show l = 0 ∨ l = 1 by omega) with rfl | rfl
          · exact absurd tl (by decide)
          · exact k 0 (by omega)
        · intro k
          refine ⟨1, by omega, by decide, fun x hx => ?_⟩
          rcases (show x = 0 ∨ x = 1 by omega) with rfl | rfl
          · exact k
          · exact Nat.le_refl _)
      unfold okN
      rw [e1, e2, iAll]
      exact p4
    · exact okN_all hm (fun l hl => full_bit (m := 2) (by omega) hl)
theorem one_rest {g : Nat} {A : Nat → Nat → Nat} {H Sh W : Nat → Nat} (h : 1 ≤ W 0) : restN 1 g A H Sh W := by
  refine ⟨fun l hl => by rw [show l = 0 by omega]; exact h, fun t ht => ?_⟩
  rcases (show t = 0 ∨ t = 1 by omega) with rfl | rfl
  · exact okN_0
  · exact okN_all (by omega) (fun l hl => full_bit (m := 1) (by omega) hl)
section SE
variable {S : Zs} {o m g : Nat} {A : Nat → Nat → Nat} {H Sh : Nat → Nat}
theorem rowL.frm {S S' : Zs} {o : Nat} (h : rowL S S' (o + 7)) : frm S S' o := fun x _ h2 _ => ⟨by rw [h.1], h.2 x h2⟩
theorem p1_fin (ho : 33 ≤ o) (D : dat m g A H Sh) {S1 : Zs} (C : cW S o m g A H Sh) (f : frm S S1 o) {W : Nat → Nat} (G : cG S1 (o + 7) m W) (R : restN m g A H Sh W) : ∃ S' W, f1_settle_126 o S1 = some S' ∧ frm S S' o ∧ cG S' (o + 7) m W ∧ restN m g A H Sh W := by
  have C1 := cW_frm ho D.1.2 C f
  obtain ⟨S', W', d, x1, x2, x3, x4, x5⟩ := p1_shorten D.1 C1.1 G R.1
  refine ⟨S', W', ?_, f.tr x2.frm, x3, restN_of D.1 R x4 (Nat.le_refl 1) (fun l hl => ?_) (fun l hl => ?_)⟩
  · unfold f1_settle_126
    rw [x1, bd1s]
  · have h1 := R.1 l hl
    rw [x5 l hl] at h1
    by_cases c : W' l = 0
    · rw [c] at h1; omega
    · omega
  · rw [x5 l hl]; omega
theorem wup_le {A : Nat → Nat → Nat} {V : Nat → Rat} {a b l q n : Nat} {wn : Nat → Nat → Nat} (h : wn l q ≤ n) : wup A V a b wn l q ≤ n + 1 := by
  unfold wup
  split <;> omega
theorem p1_settle (ho : 33 ≤ o) (D : dat m g A H Sh) (C : cW S o m g A H Sh) : ∃ S' W, f1_settle o S = some S' ∧ frm S S' o ∧ cG S' (o + 7) m W ∧ restN m g A H Sh W := by
  have d1 := D.1
  rcases (show m = 1 ∨ m = 2 ∨ m = 3 by omega) with rfl | rfl | rfl
  · unfold f1_settle
    rw [C.1, if_pos (show nI 1 = (1 : Int32) from rfl), if_pos (by decide), ltt, show (0 : Int32).toNatClampNeg = 0 by decide]
    refine p1_fin (W := fun _ => 1) ho D C (rowL.put (j := 0) (v := 1)).frm (fun l hl => ?_) (one_rest (Nat.le_refl 1))
    rw [zL_rd, if_pos ⟨rfl, by omega⟩]
    exact ⟨rfl, show 1 ≤ 10000000 by decide⟩
  · obtain ⟨S1, e1, o1, P1⟩ := p0_layTwo (o := 18) D C (by omega) (a := 0) (b := 1) (by omega) (by omega)
    obtain ⟨S2, od, e2, b2, or2, sr⟩ := p0_sort P1
    have P2 := pD_but P1 b2 (by omega) (by omega)
    obtain ⟨w1, w2, e3, pr, k1, k2⟩ := p0_settleTwo P2 or2 sr
    have f2 : frm S S2 o := fun x h1 h2 h3 => ⟨(funext fun z => b2.2 x z (by omega) : S2.1 x = S1.1 x).trans (o1 x (by omega)).1, by rw [b2.1]; exact (o1 x (by omega)).2⟩
    unfold f1_settle
    rw [C.1, if_neg (by decide), if_pos (show nI 2 = (2 : Int32) from rfl), show (0 : Int32) = nI 0 from rfl, show (1 : Int32) = nI 1 from rfl, e1, bd1s, e2, bd1s, e3, bd1s, if_pos (by decide), ltt, if_pos (by decide), ltt, show (nI 0).toNatClampNeg = 0 by decide, show (nI 1).toNatClampNeg = 1 by decide]
    have r1 : (zL (zL S2 18 7 (lN w1)) 18 8 (lN w2)).2 18 7 = lN w1 := by rw [zL_rd, if_neg (fun q => by omega), zL_rd, if_pos ⟨rfl, rfl⟩]
    have r2 : (zL (zL (zL S2 18 7 (lN w1)) 18 8 (lN w2)) (o + 7) 0 (lN w1)).2 18 8 = lN w2 := by rw [zL_rd, if_neg (fun q => by omega), zL_rd, if_pos ⟨rfl, rfl⟩]
    rw [r1, r2]
    refine p1_fin (W := fun l => if l = 0 then w1 else w2) ho D C (f2.tr ?_) (fun l hl => ?_) (pair_rest ?_)
    · intro x h1 h2 h3
      exact ⟨rfl, by rw [zL_2n _ _ _ h2, zL_2n _ _ _ h2, zL_2n _ _ _ (by omega), zL_2n _ _ _ (by omega)]⟩
    · rw [zL_rd, zL_rd]
      rcases (show l = 0 ∨ l = 1 by omega) with rfl | rfl
      · rw [if_neg (fun q => by omega), if_pos ⟨rfl, rfl⟩]
        exact ⟨rfl, show w1 ≤ 10000000 by omega⟩
      · rw [if_pos ⟨rfl, rfl⟩]
        exact ⟨rfl, show w2 ≤ 10000000 by omega⟩
    · exact pr
  · obtain ⟨V, hV, rV⟩ := rest_ex (posA_N D) (by omega)
    have d2 := D.2.1
    obtain ⟨S0, c1, c2, c3, c4⟩ := p1_clearWins (S := S)
    have f0 : frm S S0 o := fun x h1 h2 h3 => ⟨c2 x (by omega), by rw [c3]⟩
    have C0 := cW_frm ho (by omega) C f0
    have p01 : perm3 0 1 2 := Or.inl ⟨rfl, rfl, rfl⟩
    have p02 : perm3 0 2 1 := Or.inr (Or.inl ⟨rfl, rfl, rfl⟩)
    have p12 : perm3 1 2 0 := Or.inr (Or.inr ⟨rfl, rfl, rfl⟩)
    obtain ⟨r1, S1, x1, x2, x3⟩ := p1_findTied ho D C0 hV rV p01 (wn := fun _ _ => 0) (fun l q hl hq => c4 l q hl (by omega))
    unfold f1_settle
    rw [C.1, if_neg (by decide), if_neg (by decide), if_pos (show nI 3 = (3 : Int32) from rfl), c1, bd1s, show (0 : Int32) = nI 0 from rfl, show (1 : Int32) = nI 1 from rfl, x1, bd2s]
    rcases x3 with ⟨er, W, G, R⟩ | ⟨er, ap1, w1⟩
    · rw [er, if_neg (by decide)]
      exact p1_fin ho D C (f0.tr x2) G R
    rw [er, if_pos (show (0 : Int32) = nI 0 from rfl)]
    have C1 := cW_frm ho (by omega) C0 x2
    obtain ⟨r2, S2, y1, y2, y3⟩ := p1_findTied ho D C1 hV rV p02 w1
    rw [show (2 : Int32) = nI 2 from rfl, y1, bd2s]
    rcases y3 with ⟨er, W, G, R⟩ | ⟨er, ap2, w2⟩
    · rw [er, if_neg (by decide)]
      exact p1_fin ho D C ((f0.tr x2).tr y2) G R
    rw [er, if_pos (show (0 : Int32) = nI 0 from rfl)]
    have C2 := cW_frm ho (by omega) C1 y2
    obtain ⟨r3, S3, z1, z2, z3⟩ := p1_findTied ho D C2 hV rV p12 w2
    rw [z1, bd2s]
    rcases z3 with ⟨er, W, G, R⟩ | ⟨er, ap3, w3⟩
    · rw [er, if_neg (by decide)]
      exact p1_fin ho D C (((f0.tr x2).tr y2).tr z2) G R
    rw [er, if_pos (show (0 : Int32) = nI 0 from rfl)]
    have C3 := cW_frm ho (by omega) C2 z2
    obtain ⟨S4, t1, t2, t3⟩ := p1_settleApart ho D C3 w3 (fun l q => Nat.le_trans (wup_le (wup_le (wup_le (Nat.le_refl 0)))) (by decide))
    rw [t1, bd1s]
    have ap : ∀ a b q, a < 3 → b < 3 → a ≠ b → q < g → btr A V a b q ∨ btr A V b a q := by
      intro a b q ha hb nab hq
      have k1 := ap1 q hq
      have k2 := ap2 q hq
      have k3 := ap3 q hq
      rcases (show a = 0 ∨ a = 1 ∨ a = 2 by omega) with rfl | rfl | rfl <;> rcases (show b = 0 ∨ b = 1 ∨ b = 2 by omega) with rfl | rfl | rfl <;> first | exact absurd rfl nab | exact k1 | exact k1.symm | exact k2 | exact k2.symm | exact k3 | exact k3.symm
    have nb : ∀ a b q, btr A V a b q → ¬ btr A V b a q := fun a b q h1 h2 => by unfold btr at h1 h2; grind
    refine p1_fin ho D C ((((f0.tr x2).tr y2).tr z2).tr t2.frm) t3 (apart_rest D hV rV ap (fun l hl => ?_))
    unfold paid
    refine ns_congr (fun q hq => ?_)
    have k1 := ap1 q hq
    have k2 := ap2 q hq
    have k3 := ap3 q hq
    have mk : mkr 3 (q2 A) V q l = true ↔ ∀ k, k < 3 → k ≠ l → btr A V l k q := by
      rw [mkr_iff]
      constructor
      · intro h k hk nk
        rcases ap l k q hl hk (by omega) hq with z | z
        · exact z
        · exfalso
          have := h k hk
          unfold btr at z
          grind
      · intro h k hk
        by_cases c : k = l
        · rw [c]; exact Rat.le_refl
        · have := h k hk c
          unfold btr at this
          exact Rat.le_of_lt this
    have two : wup A V 1 2 (wup A V 0 2 (wup A V 0 1 (fun _ _ => 0))) l q = 2 ↔ mkr 3 (q2 A) V q l = true := by
      rw [mk]
      rcases (show l = 0 ∨ l = 1 ∨ l = 2 by omega) with rfl | rfl | rfl
      · have : (∀ k, k < 3 → k ≠ 0 → btr A V 0 k q) ↔ btr A V 0 1 q ∧ btr A V 0 2 q := ⟨fun h => ⟨h 1 (by omega) (by omega), h 2 (by omega) (by omega)⟩, fun h k hk nk => by rcases (show k = 1 ∨ k = 2 by omega) with rfl | rfl; exact h.1; exact h.2⟩
        rw [this]
        unfold wup
        by_cases b1 : btr A V 0 1 q <;> by_cases b2 : btr A V 0 2 q <;> simp [b1, b2]
      · have : (∀ k, k < 3 → k ≠ 1 → btr A V 1 k q) ↔ ¬ btr A V 0 1 q ∧ btr A V 1 2 q := ⟨fun h => ⟨nb _ _ _ (h 0 (by omega) (by omega)), h 2 (by omega) (by omega)⟩, fun h k hk nk => by
          rcases (show k = 0 ∨ k = 2 by omega) with rfl | rfl
          · exact k1.resolve_left h.1
          · exact h.2⟩
        rw [this]
        unfold wup
        by_cases b1 : btr A V 0 1 q <;> by_cases b2 : btr A V 1 2 q <;> simp [b1, b2]
      · have : (∀ k, k < 3 → k ≠ 2 → btr A V 2 k q) ↔ ¬ btr A V 0 2 q ∧ ¬ btr A V 1 2 q := ⟨fun h => ⟨nb _ _ _ (h 0 (by omega) (by omega)), nb _ _ _ (h 1 (by omega) (by omega))⟩, fun h k hk nk => by
          rcases (show k = 0 ∨ k = 1 by omega) with rfl | rfl
          · exact k2.resolve_left h.1
          · exact k3.resolve_left h.2⟩
        rw [this]
        unfold wup
        by_cases b1 : btr A V 0 2 q <;> by_cases b2 : btr A V 1 2 q <;> simp [b1, b2]
    by_cases c : mkr 3 (q2 A) V q l = true
    · rw [if_pos (two.mpr c), if_pos c]
    · rw [if_neg (fun k => c (two.mp k)), if_neg c]
end SE
