/-! fault, status, trace, told, wage, price, gain, stays -/
theorem rng_in (x hi : Int32) : f7_in x.toInt64 0 hi.toInt64 = if x < 0 then 0 else if x ≤ hi then 1 else 0 := by
  rw [show (0 : Int64) = (0 : Int32).toInt64 from rfl, inI]
  by_cases c1 : x < 0
  · rw [if_pos c1, if_pos c1]
  · rw [if_neg c1, if_neg c1]
    by_cases c2 : x ≤ hi
    · rw [if_pos c2, if_neg (fun k => (i32lt x hi).mpr k c2)]
    · rw [if_neg c2, if_pos ((i32lt x hi).mp c2)]
theorem i32_01 {x : Int32} (h0 : ¬ x < 0) {n : Nat} (hn : n < 2 ^ 31) (h1 : x ≤ nI n) : ∃ j, j ≤ n ∧ x = nI j := nI_of2 (nI_toInt hn) h0 h1
theorem i10 : ¬ (1 : Int32) = 0 := by decide
section LO
variable {C M : Zs}
theorem s_fault (h : II C M) : ∃ (r : Int32) (C' M' : Zs), (f6_fault C = r ∧ C' = C) ∧ (f7_fault M = some (r, M')) ∧ II C' M' := by
  refine ⟨_, C, zI M 0 0 0, ⟨rfl, rfl⟩, ?_, II_t0 h⟩
  obtain ⟨n, h1, h2, h3, h4, h5⟩ := h.2.1
  unfold f7_fault f6_fault
  rw [ltt, h4]
  rfl
theorem s_status (h : II C M) : ∃ (r : Int32) (C' M' : Zs), (f6_status C = r ∧ C' = C) ∧ (f7_status M = some (r, M')) ∧ II C' M' := by
  refine ⟨_, C, zI M 0 0 0, ⟨rfl, rfl⟩, ?_, II_t0 h⟩
  have h1 := h.2.2.2.2
  unfold f7_status f6_status
  rw [ltt, h1]
  rfl
theorem s_trace (h : II C M) (x : Int32) : ∃ (r : Int32) (C' M' : Zs), (f6_trace C x = some r ∧ C' = C) ∧ (f7_trace x M = some (r, M')) ∧ II C' M' := by
  have h2 := II_t0 h
  unfold f7_trace
  rw [ltt]
  generalize zI M 0 0 0 = M2 at h2 ⊢
  obtain ⟨n, x1, x2, x3, x4⟩ := h2.2.2.2.1
  unfold f6_trace f4_at
  rw [x2, x3]
  by_cases n0 : n = 0
  · subst n0
    have e := gN_ix x
    rw [show nI 0 = (0 : Int32) from rfl, e.2, if_pos rfl]
    refine ⟨-1000000, C, M2, ⟨?_, rfl⟩, rfl, h2⟩
    by_cases c : x < 0
    · rw [if_pos c, bd1s]
    · rw [if_neg c, if_pos ((i32le x 0).mp c), bd1s]
  · rcases g_ix (n := n) (by omega) (by omega) x with ⟨e1, e2⟩ | ⟨l, hl, rfl, e1, e2⟩
    · rw [e2, if_pos rfl]
      refine ⟨-1000000, C, M2, ⟨?_, rfl⟩, rfl, h2⟩
      by_cases c : x < 0
      · rw [if_pos c, bd1s]
      · rw [if_neg c] at e1 ⊢
        by_cases c2 : nI n ≤ x
        · rw [if_pos c2, bd1s]
        · rw [if_neg c2] at e1
          exact absurd e1 (by decide)
    · rw [e2, if_neg i10, if_pos (inb_nI (by omega) (by decide)), nI_clamp (by omega), if_neg (nI_pos (by omega)), if_neg (nI_ge hl (by omega)), if_pos (inb_nI (by omega) (by decide)), bd1s]
      exact ⟨_, C, M2, ⟨rfl, rfl⟩, by rw [x4 l hl], h2⟩
theorem s_told (h : II C M) (x1 x2 x3 : Int32) : ∃ (r : Int64) (C' M' : Zs), (f6_told C x1 x2 x3 = some r ∧ C' = C) ∧ (f7_told x1 x2 x3 M = some (r, M')) ∧ II C' M' := by
  have h2 := II_t0 h
  unfold f7_told f6_told
  rw [ltt]
  generalize zI M 0 0 0 = M2 at h2 ⊢
  rcases h2.2.2.1 with v | ⟨m, g, A, H, Sh, W, v⟩
  · obtain ⟨e1, e2⟩ := gN_land v x1
    rw [e1, e2, if_pos rfl, if_pos rfl]
    exact ⟨_, C, M2, ⟨rfl, rfl⟩, rfl, h2⟩
  rcases gV_land v x1 with ⟨e1, e2⟩ | ⟨l, hl, rfl, e1, e2⟩
  · rw [e1, e2, if_pos rfl, if_pos rfl]
    exact ⟨_, C, M2, ⟨rfl, rfl⟩, rfl, h2⟩
  rw [e1, e2, if_neg i10, if_neg i10]
  rcases gV_good v x2 with ⟨e1, e2⟩ | ⟨q, hq, rfl, e1, e2⟩
  · rw [e1, e2, if_pos rfl, if_pos rfl]
    exact ⟨_, C, M2, ⟨rfl, rfl⟩, rfl, h2⟩
  rw [e1, e2, if_neg i10, if_neg i10]
  obtain ⟨D, c37, g44, rW, mw, mk, ih⟩ := v
  have d1 := D.1
  have d2 := D.2.1
  rw [show (2 : Int64) = (2 : Int32).toInt64 from rfl, rng_in]
  by_cases c0 : x3 < 0
  · rw [if_pos c0, if_pos rfl, if_neg (fun k => by rw [k] at c0; exact absurd c0 (by decide)), if_neg (fun k => by rw [k] at c0; exact absurd c0 (by decide)), if_neg (fun k => by rw [k] at c0; exact absurd c0 (by decide))]
    exact ⟨_, C, M2, ⟨rfl, rfl⟩, rfl, h2⟩
  rw [if_neg c0]
  by_cases c2 : x3 ≤ 2
  · rw [if_pos c2, if_neg i10]
    obtain ⟨j, hj, rfl⟩ := i32_01 c0 (n := 2) (by decide) c2
    have a6 : inb (((6 : Int32) * nI l) + nI q) 18 = true := by rw [ix6]; exact inb_nI (by omega) (by decide)
    have c6 : (((6 : Int32) * nI l) + nI q).toNatClampNeg = 6 * l + q := by rw [ix6]; exact nI_clamp (by omega)
    rcases (show j = 0 ∨ j = 1 ∨ j = 2 by omega) with rfl | rfl | rfl
    · rw [if_pos (show nI 0 = 0 from rfl), if_pos (show nI 0 = 0 from rfl), if_pos (inb_nI (by omega) (by decide)), if_pos (inb_nI (by omega) (by decide)), nI_clamp (by omega), nI_clamp (by omega), if_pos a6, c6, c37.2.2.2.2 l q hl hq, mw.2.2.2.2 l q hl hq]
      exact ⟨_, C, M2, ⟨rfl, rfl⟩, rfl, h2⟩
    · rw [if_neg (show ¬ nI 1 = 0 by decide), if_pos (show nI 1 = 1 from rfl), if_neg (show ¬ nI 1 = 0 by decide), if_pos (show nI 1 = 1 from rfl), if_pos (inb_nI (show l < 3 by omega) (by decide)), if_pos (inb_nI (show l < 3 by omega) (by decide)), nI_clamp (show l < 2 ^ 31 by omega), c37.2.2.2.1 l hl, mw.2.2.2.1 l hl]
      exact ⟨_, C, M2, ⟨rfl, rfl⟩, rfl, h2⟩
    · rw [if_neg (show ¬ nI 2 = 0 by decide), if_neg (show ¬ nI 2 = 1 by decide), if_pos (show nI 2 = 2 from rfl), if_neg (show ¬ nI 2 = 0 by decide), if_neg (show ¬ nI 2 = 1 by decide), if_pos (inb_nI (show q < 6 by omega) (by decide)), if_pos (inb_nI (show q < 6 by omega) (by decide)), nI_clamp (show q < 2 ^ 31 by omega), c37.2.2.1 q hq, mw.2.2.1 q hq]
      exact ⟨_, C, M2, ⟨rfl, rfl⟩, rfl, h2⟩
  · rw [if_neg c2, if_pos rfl, if_neg (fun k => by rw [k] at c2; exact c2 (by decide)), if_neg (fun k => by rw [k] at c2; exact c2 (by decide)), if_neg (fun k => by rw [k] at c2; exact c2 (by decide))]
    exact ⟨_, C, M2, ⟨rfl, rfl⟩, rfl, h2⟩
theorem s_wage (h : II C M) (x1 x2 : Int32) : ∃ (r : Int64) (C' M' : Zs), (f6_wage C x1 x2 = some r ∧ C' = C) ∧ (f7_wage x1 x2 M = some (r, M')) ∧ II C' M' := by
  have h2 := II_t0 h
  unfold f7_wage f6_wage
  rw [ltt]
  generalize zI M 0 0 0 = M2 at h2 ⊢
  rcases h2.2.2.1 with v | ⟨m, g, A, H, Sh, W, v⟩
  · obtain ⟨e1, e2⟩ := gN_land v x1
    rw [e1, e2, if_pos rfl, if_pos rfl]
    exact ⟨_, C, M2, ⟨rfl, rfl⟩, rfl, h2⟩
  rcases gV_land v x1 with ⟨e1, e2⟩ | ⟨l, hl, rfl, e1, e2⟩
  · rw [e1, e2, if_pos rfl, if_pos rfl]
    exact ⟨_, C, M2, ⟨rfl, rfl⟩, rfl, h2⟩
  rw [e1, e2, if_neg i10, if_neg i10, show (1 : Int64) = (1 : Int32).toInt64 from rfl, rng_in]
  by_cases c0 : x2 < 0
  · rw [if_pos c0, if_pos c0, if_pos rfl]
    exact ⟨_, C, M2, ⟨rfl, rfl⟩, rfl, h2⟩
  rw [if_neg c0, if_neg c0]
  by_cases c1 : x2 ≤ 1
  · rw [if_pos c1, if_pos c1, if_neg i10]
    obtain ⟨M', R, a1, a2, a3, a4, a5, a6, a7⟩ := II_two h2 v
    obtain ⟨D, c37, g44, rW, mw, mk, ih⟩ := v
    have d1 := D.1
    rw [a1, bd1s, if_pos (inb_nI (by omega) (by decide)), if_pos (by decide), if_pos (inb_nI (by omega) (by decide)), if_pos (by decide), nI_clamp (by omega), show (0 : Int32).toNatClampNeg = 0 by decide, (g44 l hl).1, (g44 0 (by omega)).1, (a5 l (by omega)).1, (a5 0 (by omega)).1]
    have b1 := (g44 l hl).2
    have b2 := (g44 0 (by omega)).2
    have b3 := (a5 l (by omega)).2
    have b4 := (a5 0 (by omega)).2
    rw [p6_part (by omega) (by omega) (rW.1 0 (by omega)), p7_partOf (by omega) (by omega) (a6 0 (by omega)), bd1s, bd1s]
    exact ⟨_, C, M', ⟨rfl, rfl⟩, by rw [frc_one (rW.1 l hl) (rW.1 0 (by omega)) (a6 l hl) (a6 0 (by omega)) (by rw [rest_p D rW a7 l 0 hl (by omega), Nat.mul_comm])], a2⟩
  · rw [if_neg c1, if_neg c1, if_pos rfl]
    exact ⟨_, C, M2, ⟨rfl, rfl⟩, rfl, h2⟩
theorem s_price (h : II C M) (x1 x2 : Int32) : ∃ (r : Int64) (C' M' : Zs), (f6_price C x1 x2 = some r ∧ C' = C) ∧ (f7_price x1 x2 M = some (r, M')) ∧ II C' M' := by
  have h2 := II_t0 h
  unfold f7_price f6_price
  rw [ltt]
  generalize zI M 0 0 0 = M2 at h2 ⊢
  rcases h2.2.2.1 with v | ⟨m, g, A, H, Sh, W, v⟩
  · obtain ⟨e1, e2⟩ := gN_good v x1
    rw [e1, e2, if_pos rfl, if_pos rfl]
    exact ⟨_, C, M2, ⟨rfl, rfl⟩, rfl, h2⟩
  rcases gV_good v x1 with ⟨e1, e2⟩ | ⟨q, hq, rfl, e1, e2⟩
  · rw [e1, e2, if_pos rfl, if_pos rfl]
    exact ⟨_, C, M2, ⟨rfl, rfl⟩, rfl, h2⟩
  rw [e1, e2, if_neg i10, if_neg i10, show (2 : Int64) = (2 : Int32).toInt64 from rfl, rng_in]
  by_cases c0 : x2 < 0
  · rw [if_pos c0, if_pos c0, if_pos rfl]
    exact ⟨_, C, M2, ⟨rfl, rfl⟩, rfl, h2⟩
  rw [if_neg c0, if_neg c0]
  by_cases c1 : x2 ≤ 2
  · rw [if_pos c1, if_pos c1, if_neg i10]
    obtain ⟨M', R, a1, a2, a3, a4, a5, a6, a7⟩ := II_two h2 v
    obtain ⟨D, c37, g44, rW, mw, mk, ih⟩ := v
    have mw' := a3.2.2.2.2.1
    have d1 := D.1
    rw [a1, bd1s]
    by_cases c2 : x2 = 2
    · rw [if_pos c2, if_pos c2, p5_makersBy D c37 g44 hq, bd1s, p7_makersE D mw' a5 hq, bd1s]
      exact ⟨_, C, M', ⟨rfl, rfl⟩, by rw [← mkrs_rest D rW a7]; rfl, a2⟩
    · rw [if_neg c2, if_neg c2, p5_leastCost D c37 g44 hq, bd1s, p7_priceE D mw' a5 hq, bd1s, if_pos (by decide), if_pos (by decide), show (0 : Int32).toNatClampNeg = 0 by decide, (g44 0 (by omega)).1, (a5 0 (by omega)).1]
      have b2 := (g44 0 (by omega)).2
      have b4 := (a5 0 (by omega)).2
      have k1 := lst_bd D g44 hq
      have k2 := lst_bd D (fun l hl => a5 l (by omega)) hq
      rw [p6_part (by omega) (by omega) (rW.1 0 (by omega)), p7_partOf (by omega) (by omega) (a6 0 (by omega)), bd1s, bd1s]
      exact ⟨_, C, M', ⟨rfl, rfl⟩, by rw [frc_one (lst_pos D rW.1 hq) (rW.1 0 (by omega)) (lst_pos D a6 hq) (a6 0 (by omega)) (lst_rest D rW a7 (by omega))], a2⟩
  · rw [if_neg c1, if_neg c1, if_pos rfl]
    exact ⟨_, C, M2, ⟨rfl, rfl⟩, rfl, h2⟩
theorem s_gain (h : II C M) (x1 x2 x3 : Int32) : ∃ (r : Int64) (C' M' : Zs), (f6_gain C x1 x2 x3 = some r ∧ C' = C) ∧ (f7_gain x1 x2 x3 M = some (r, M')) ∧ II C' M' := by
  have h2 := II_t0 h
  unfold f7_gain f6_gain
  rw [ltt]
  generalize zI M 0 0 0 = M2 at h2 ⊢
  rcases h2.2.2.1 with v | ⟨m, g, A, H, Sh, W, v⟩
  · obtain ⟨e1, e2⟩ := gN_land v x1
    rw [e1, e2, if_pos rfl, if_pos rfl]
    exact ⟨_, C, M2, ⟨rfl, rfl⟩, rfl, h2⟩
  rcases gV_land v x1 with ⟨e1, e2⟩ | ⟨l, hl, rfl, e1, e2⟩
  · rw [e1, e2, if_pos rfl, if_pos rfl]
    exact ⟨_, C, M2, ⟨rfl, rfl⟩, rfl, h2⟩
  rw [e1, e2, if_neg i10, if_neg i10]
  rcases gV_good v x2 with ⟨e1, e2⟩ | ⟨q, hq, rfl, e1, e2⟩
  · rw [e1, e2, if_pos rfl, if_pos rfl]
    exact ⟨_, C, M2, ⟨rfl, rfl⟩, rfl, h2⟩
  rw [e1, e2, if_neg i10, if_neg i10, show (1 : Int64) = (1 : Int32).toInt64 from rfl, rng_in]
  by_cases c0 : x3 < 0
  · rw [if_pos c0, if_pos c0, if_pos rfl]
    exact ⟨_, C, M2, ⟨rfl, rfl⟩, rfl, h2⟩
  rw [if_neg c0, if_neg c0]
  by_cases c1 : x3 ≤ 1
  · rw [if_pos c1, if_pos c1, if_neg i10]
    obtain ⟨M', R, a1, a2, a3, a4, a5, a6, a7⟩ := II_two h2 v
    obtain ⟨D, c37, g44, rW, mw, mk, ih⟩ := v
    have mw' := a3.2.2.2.2.1
    have d1 := D.1
    have G' : cG M' 11 m R := fun l hl => a5 l (by omega)
    have bA := D.2.2.2.2 l q hl hq
    have k1 := lst_bd D g44 hq
    have k2 := lst_bd D G' hq
    have k3 := costb D g44 hl hq
    have k4 := costb D G' hl hq
    rw [a1, bd1s, p5_cost D c37 g44 hl hq, bd1s, p5_leastCost D c37 g44 hq, bd1s, p7_costOf D mw' G' hl hq, bd1s, p7_priceE D mw' a5 hq, bd1s, p6_part (by omega) (by omega) (lst_pos D rW.1 hq), p7_partOf (by omega) (by omega) (lst_pos D a6 hq), bd1s, bd1s]
    refine ⟨_, C, M', ⟨rfl, rfl⟩, ?_, a2⟩
    rw [frc_one (Nat.mul_pos (rW.1 l hl) bA.1) (lst_pos D rW.1 hq) (Nat.mul_pos (a6 l hl) bA.1) (lst_pos D a6 hq) ?_]
    have e := lst_rest D rW a7 (q := q) hl
    generalize lst (m - 1) (fun k => W k * A k q) = X at *
    generalize lst (m - 1) (fun k => R k * A k q) = Y at *
    grind
  · rw [if_neg c1, if_neg c1, if_pos rfl]
    exact ⟨_, C, M2, ⟨rfl, rfl⟩, rfl, h2⟩
theorem s_stays (h : II C M) (x1 x2 x3 : Int32) : ∃ (r : Int64) (C' M' : Zs), (f6_stays C x1 x2 x3 = some r ∧ C' = C) ∧ (f7_stays x1 x2 x3 M = some (r, M')) ∧ II C' M' := by
  have h2 := II_t0 h
  unfold f7_stays f6_stays
  rw [ltt]
  generalize zI M 0 0 0 = M2 at h2 ⊢
  rcases h2.2.2.1 with v | ⟨m, g, A, H, Sh, W, v⟩
  · obtain ⟨e1, e2⟩ := gN_land v x1
    rw [e1, e2, if_pos rfl, if_pos rfl]
    exact ⟨_, C, M2, ⟨rfl, rfl⟩, rfl, h2⟩
  rcases gV_land v x1 with ⟨e1, e2⟩ | ⟨l, hl, rfl, e1, e2⟩
  · rw [e1, e2, if_pos rfl, if_pos rfl]
    exact ⟨_, C, M2, ⟨rfl, rfl⟩, rfl, h2⟩
  rw [e1, e2, if_neg i10, if_neg i10]
  rcases gV_good v x2 with ⟨e1, e2⟩ | ⟨q, hq, rfl, e1, e2⟩
  · rw [e1, e2, if_pos rfl, if_pos rfl]
    exact ⟨_, C, M2, ⟨rfl, rfl⟩, rfl, h2⟩
  rw [e1, e2, if_neg i10, if_neg i10, show (900 : Int64) = (900 : Int32).toInt64 from rfl, rng_in]
  by_cases c0 : x3 < 0
  · rw [if_pos c0, if_pos c0, if_pos rfl]
    exact ⟨_, C, M2, ⟨rfl, rfl⟩, rfl, h2⟩
  rw [if_neg c0, if_neg c0]
  by_cases c1 : x3 ≤ 900
  · rw [if_pos c1, if_pos c1, if_neg i10]
    obtain ⟨f, hf, rfl⟩ := i32_01 c0 (n := 900) (by decide) c1
    obtain ⟨M', R, a1, a2, a3, a4, a5, a6, a7⟩ := II_two h2 v
    obtain ⟨D, c37, g44, rW, mw, mk, ih⟩ := v
    have mw' := a3.2.2.2.2.1
    have d1 := D.1
    have G' : cG M' 11 m R := fun l hl => a5 l (by omega)
    have bA := D.2.2.2.2 l q hl hq
    have k1 := lst_bd D g44 hq
    have k2 := lst_bd D G' hq
    have k3 := costb D g44 hl hq
    have k4 := costb D G' hl hq
    rw [a1, bd1s, p5_cost D c37 g44 hl hq, bd1s, ltt, p5_leastCost D c37 g44 hq, bd1s, ltt, p7_costOf D mw' G' hl hq, bd1s, p7_priceE D mw' a5 hq, bd1s, show (100 : Int32) = nI 100 from rfl, nI_add, nI_l (by omega), nI_l (by omega), show (100 : Int64) = lN 100 from rfl, lN_add, lN_mul, lN_mul, lN_mul, lN_mul]
    have m1 : (100 + f) * lst (m - 1) (fun k => R k * A k q) ≤ 1000 * 200000000 := Nat.mul_le_mul (by omega) k2
    have m2 : lst (m - 1) (fun k => W k * A k q) * (100 + f) ≤ 200000000 * 1000 := Nat.mul_le_mul k1 (by omega)
    have e := lst_rest D rW a7 (q := q) hl
    have pW := rW.1 l hl
    have pR := a6 l hl
    have iff : lst (m - 1) (fun k => W k * A k q) * (100 + f) < W l * A l q * 100 ↔ (100 + f) * lst (m - 1) (fun k => R k * A k q) < 100 * (R l * A l q) := by
      generalize lst (m - 1) (fun k => W k * A k q) = X at *
      generalize lst (m - 1) (fun k => R k * A k q) = Y at *
      constructor
      · intro z
        have z2 := Nat.mul_lt_mul_of_pos_left z pR
        have e3 : R l * (X * (100 + f)) = W l * ((100 + f) * Y) := by
          have : R l * (X * (100 + f)) = (X * R l) * (100 + f) := by grind
          rw [this, e]
          grind
        have e4 : R l * (W l * A l q * 100) = W l * (100 * (R l * A l q)) := by grind
        rw [e3, e4] at z2
        exact Nat.lt_of_mul_lt_mul_left z2
      · intro z
        have z2 := Nat.mul_lt_mul_of_pos_left z pW
        have e3 : W l * ((100 + f) * Y) = R l * (X * (100 + f)) := by
          have : W l * ((100 + f) * Y) = (Y * W l) * (100 + f) := by grind
          rw [this, ← e]
          grind
        have e4 : W l * (100 * (R l * A l q)) = R l * (W l * A l q * 100) := by grind
        rw [e3, e4] at z2
        exact Nat.lt_of_mul_lt_mul_left z2
    by_cases cc : lst (m - 1) (fun k => W k * A k q) * (100 + f) < W l * A l q * 100
    · rw [if_pos ((pk_lLT (by omega) (by omega)).mpr cc), if_pos ((pk_lLT (by omega) (by omega)).mpr (iff.mp cc))]
      exact ⟨_, C, M', ⟨rfl, rfl⟩, rfl, a2⟩
    · rw [if_neg (fun k => cc ((pk_lLT (by omega) (by omega)).mp k)), if_neg (fun k => cc (iff.mpr ((pk_lLT (by omega) (by omega)).mp k)))]
      exact ⟨_, C, M', ⟨rfl, rfl⟩, rfl, a2⟩
  · rw [if_neg c1, if_neg c1, if_pos rfl]
    exact ⟨_, C, M2, ⟨rfl, rfl⟩, rfl, h2⟩
end LO
