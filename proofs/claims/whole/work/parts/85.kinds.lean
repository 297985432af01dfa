/-! kind, as -/
def bcn (b : Nat) : Nat := b % 2 + b / 2 % 2 + b / 4 % 2
theorem bcn_le (b : Nat) : bcn b ≤ 3 := by unfold bcn; omega
theorem bc_C : ∀ b, b < 8 → fJ_bitCount (nI b) = nI (bcn b) := by decide +kernel
theorem bc_M : ∀ b, b < 8 → f7_bits (nI b) = nI (bcn b) := by decide +kernel
def isK (b m : Nat) (d : Bool) (k : Nat) : Int32 :=
  if k = 1 then (if bcn b = 1 then 1 else 0) else if k = 2 then (if bcn b ≤ 1 then 0 else 1) else if k = 3 then (if bcn b ≤ 1 then 0 else if b = 2 ^ m - 1 then 1 else 0) else if k = 4 then (if b = 1 then 1 else 0) else if k = 5 then (if b = 1 then (if d = true then 1 else 0) else 0) else 1
def kdB (b m : Nat) (d : Bool) : Nat := if bcn b ≤ 1 then (if b = 1 then (if d = true then 5 else 4) else 1) else if b = 2 ^ m - 1 then 3 else 2
theorem kd_loop : ∀ b, b < 8 → b ≠ 0 → ∀ m, m < 4 → ∀ d : Bool, (if isK b m d 5 = 0 then (if isK b m d 4 = 0 then (if isK b m d 3 = 0 then (if isK b m d 2 = 0 then (if isK b m d 1 = 0 then some (0 : Int32) else some (nI 1)) else some (nI 2)) else some (nI 3)) else some (nI 4)) else some (nI 5)) = some (nI (kdB b m d)) := by decide +kernel
theorem kd_isOf : ∀ b, b < 8 → b ≠ 0 → ∀ m, m < 4 → ∀ d : Bool, ∀ k, k < 6 → f7_isOf (nI (kdB b m d)) (nI k) = isK b m d k := by decide +kernel
theorem bcn_1 : ∀ b, b < 8 → b ≠ 0 → 1 ≤ bcn b := by decide +kernel
theorem kd_cases {b m : Nat} {d : Bool} (hb : b < 8) (h0 : b ≠ 0) : (kdB b m d = 1 ∧ bcn b = 1) ∨ (kdB b m d = 4 ∧ bcn b = 1) ∨ (kdB b m d = 5 ∧ bcn b = 1) ∨ kdB b m d = 2 ∨ kdB b m d = 3 := by
  have h1 := bcn_1 b hb h0
  unfold kdB
  repeat' split
  all_goals omega
theorem nle1 {b : Nat} (h : b < 2 ^ 31) : nI b ≤ (1 : Int32) ↔ b ≤ 1 := nI_leI (b := 1) h (by decide)
theorem neq1 {b : Nat} (h : b < 2 ^ 31) : nI b = (1 : Int32) ↔ b = 1 := nI_eq (b := 1) h (by decide)
theorem isK_01 (b m : Nat) (d : Bool) (k : Nat) : isK b m d k = 0 ∨ isK b m d k = 1 := by
  unfold isK
  repeat' split
  all_goals simp
def dr (m : Nat) (A : Nat → Nat → Nat) (W : Nat → Nat) (q : Nat) : Bool := decide (10 * W 0 ≤ lst (m - 1) (fun k => W k * A k q))
section KD
variable {C M : Zs} {m g : Nat} {A : Nat → Nat → Nat} {H Sh W R : Nat → Nat}
theorem mkrs_lt {q : Nat} : mkrs m A W q < 8 := mkb_lt
theorem mkrs_ne (hm : 1 ≤ m ∧ m ≤ 3) {q : Nat} : mkrs m A W q ≠ 0 := by
  obtain ⟨i, hi, e⟩ := lst_in (n := m - 1) (c := fun k => W k * A k q)
  intro z
  have t : (mkrs m A W q).testBit i = true := (mkb_bit hm).mpr ⟨by omega, e.symm⟩
  rw [z, Nat.zero_testBit] at t
  exact absurd t (by decide)
theorem dr_rest (D : dat m g A H Sh) (hW : restN m g A H Sh W) (hR : restN m g A H Sh R) (q : Nat) : dr m A W q = dr m A R q := by
  unfold dr
  have d1 := D.1
  have e := lst_rest D hW hR (q := q) (l := 0) (by omega)
  have p1 := hW.1 0 (by omega)
  have p2 := hR.1 0 (by omega)
  generalize lst (m - 1) (fun k => W k * A k q) = X at *
  generalize lst (m - 1) (fun k => R k * A k q) = Y at *
  congr 1
  apply propext
  constructor
  · intro z
    refine m_cancel p1 ?_
    have z2 := Nat.mul_le_mul_right (R 0) z
    rw [e] at z2
    calc W 0 * (10 * R 0) = 10 * W 0 * R 0 := by grind
      _ ≤ Y * W 0 := z2
      _ = W 0 * Y := Nat.mul_comm _ _
  · intro z
    refine m_cancel p2 ?_
    have z2 := Nat.mul_le_mul_right (W 0) z
    rw [← e] at z2
    calc R 0 * (10 * W 0) = 10 * R 0 * W 0 := by grind
      _ ≤ X * R 0 := z2
      _ = R 0 * X := Nat.mul_comm _ _
theorem p6_isOfKind (D : dat m g A H Sh) (c : cW C 37 m g A H Sh) (G : cG C 44 m W) {q k : Nat} (hq : q < g) (hk : k ≤ 5) : f6_isOfKind C (nI q) (nI k) = some (isK (mkrs m A W q) m (dr m A W q) k) := by
  have d1 := D.1
  have e1 : f5_makersBy 37 44 C (nI q) = some (nI (mkrs m A W q)) := p5_makersBy D c G hq
  have e2 : f5_leastCost 37 44 C (nI q) = some (lN (lst (m - 1) (fun l => W l * A l q))) := p5_leastCost D c G hq
  have kb := lst_bd D G hq
  have kw := (G 0 (by omega)).2
  have l8 : mkrs m A W q < 8 := mkrs_lt
  have p8 := pw8 d1.2
  unfold f6_isOfKind
  rw [show 37 + 7 = 44 from rfl, e1, e2, bd1s, bd1s, bc_C _ l8, p5_allLands D c, show (0 : Int32).toNatClampNeg = 0 by decide, (G 0 (by omega)).1, show (10 : Int64) = lN 10 from rfl, lN_mul, if_pos (show inb 0 3 = true by decide)]
  unfold dr
  generalize mkrs m A W q = b at *
  generalize lst (m - 1) (fun k => W k * A k q) = X at *
  have hb := bcn_le b
  rcases (show k = 0 ∨ k = 1 ∨ k = 2 ∨ k = 3 ∨ k = 4 ∨ k = 5 by omega) with rfl | rfl | rfl | rfl | rfl | rfl
  · rfl
  · show (if nI (bcn b) = 1 then some (1 : Int32) else some 0) = some (if bcn b = 1 then 1 else 0)
    by_cases c : bcn b = 1
    · rw [if_pos c, if_pos (by rw [c]; rfl)]
    · rw [if_neg c, if_neg (fun k => c ((neq1 (by omega)).mp k))]
  · show (if nI (bcn b) ≤ 1 then some (0 : Int32) else some 1) = some (if bcn b ≤ 1 then 0 else 1)
    by_cases c : bcn b ≤ 1
    · rw [if_pos c, if_pos ((nle1 (by omega)).mpr c)]
    · rw [if_neg c, if_neg (fun k => c ((nle1 (by omega)).mp k))]
  · show (if nI (bcn b) ≤ 1 then some (0 : Int32) else if nI b = nI (2 ^ m - 1) then some 1 else some 0) = some (if bcn b ≤ 1 then 0 else if b = 2 ^ m - 1 then 1 else 0)
    by_cases c : bcn b ≤ 1
    · rw [if_pos c, if_pos ((nle1 (by omega)).mpr c)]
    · rw [if_neg c, if_neg (fun k => c ((nle1 (by omega)).mp k))]
      by_cases c2 : b = 2 ^ m - 1
      · rw [if_pos c2, if_pos (by rw [c2])]
      · rw [if_neg c2, if_neg (fun k => c2 ((nI_eq (by omega) (by omega)).mp k))]
  · show (if nI b = 1 then some (1 : Int32) else some 0) = some (if b = 1 then 1 else 0)
    by_cases c : b = 1
    · rw [if_pos c, if_pos (by rw [c]; rfl)]
    · rw [if_neg c, if_neg (fun k => c ((neq1 (by omega)).mp k))]
  · show (if nI b = 1 then (if lN X < lN (10 * W 0) then some (0 : Int32) else some 1) else some 0) = some (if b = 1 then (if decide (10 * W 0 ≤ X) = true then 1 else 0) else 0)
    by_cases c : b = 1
    · rw [if_pos c, if_pos (by rw [c]; rfl)]
      by_cases c2 : X < 10 * W 0
      · rw [if_pos ((pk_lLT (by omega) (by omega)).mpr c2), if_neg (fun k => by have := of_decide_eq_true k; omega)]
      · rw [if_neg (fun k => c2 ((pk_lLT (by omega) (by omega)).mp k)), if_pos (decide_eq_true (by omega))]
    · rw [if_neg c, if_neg (fun k => c ((neq1 (by omega)).mp k))]
theorem p6_kindOf (D : dat m g A H Sh) (c : cW C 37 m g A H Sh) (G : cG C 44 m W) {q : Nat} (hq : q < g) : f6_kindOf C (nI q) = some (nI (kdB (mkrs m A W q) m (dr m A W q))) := by
  have d1 := D.1
  have st : ∀ n k, 1 ≤ k → k ≤ 5 → f6_kindOf_2 C (n + 1) (nI q) (nI k) = if isK (mkrs m A W q) m (dr m A W q) k = 0 then f6_kindOf_2 C n (nI q) (nI (k - 1)) else some (nI k) := by
    intro n k h1 h2
    obtain ⟨j, rfl⟩ : ∃ j, k = j + 1 := ⟨k - 1, by omega⟩
    rw [f6_kindOf_2]
    dsimp only
    rw [if_neg (nI_nle (by omega) (by omega)), p6_isOfKind D c G hq (by omega), bd1s, ltt, pk_m1]
    rfl
  have en : ∀ n, f6_kindOf_2 C (n + 1) (nI q) (nI 0) = some 0 := by
    intro n
    rw [f6_kindOf_2]
    rfl
  unfold f6_kindOf
  rw [show fuel0 = 994 + 1 + 1 + 1 + 1 + 1 + 1 from rfl, show (5 : Int32) = nI 5 from rfl, st _ 5 (by decide) (by decide), st _ (5 - 1) (by decide) (by decide), st _ (5 - 1 - 1) (by decide) (by decide), st _ (5 - 1 - 1 - 1) (by decide) (by decide), st _ (5 - 1 - 1 - 1 - 1) (by decide) (by decide), show 5 - 1 - 1 - 1 - 1 - 1 = 0 from rfl, en]
  exact kd_loop _ mkrs_lt (mkrs_ne d1) m (by omega) _
theorem p7_kindOf (h : II C M) (v : iV C M m g A H Sh W) {q : Nat} (hq : q < g) : ∃ M' R, f7_kindOf (nI q) M = some (nI (kdB (mkrs m A W q) m (dr m A W q)), M') ∧ II C M' ∧ iV C M' m g A H Sh W ∧ cG M' 11 3 R ∧ (∀ l, l < m → 1 ≤ R l) ∧ restN m g A H Sh R := by
  obtain ⟨M', R, a1, a2, a3, a4, a5, a6, a7⟩ := II_two h v
  refine ⟨M', R, ?_, a2, a3, a5, a6, a7⟩
  obtain ⟨D, c37, g44, rW, mw, mk, ih⟩ := v
  have mw' := a3.2.2.2.2.1
  have d1 := D.1
  have G' : cG M' 11 m R := fun l hl => a5 l (by omega)
  have kb := lst_bd D G' hq
  have kw := (a5 0 (by omega)).2
  unfold f7_kindOf
  rw [a1, bd1s, p7_makersE D mw' a5 hq, bd1s, mkrs_rest D rW a7, dr_rest D rW a7, bc_M _ mkrs_lt, p7_priceE D mw' a5 hq, bd1s, p7_every D mw', show (0 : Int32).toNatClampNeg = 0 by decide, (a5 0 (by omega)).1, show (10 : Int64) = lN 10 from rfl, lN_mul, if_pos (show inb 0 3 = true by decide)]
  unfold dr kdB
  have l8 : mkrs m A R q < 8 := mkrs_lt
  have p8 := pw8 d1.2
  generalize mkrs m A R q = b at *
  generalize lst (m - 1) (fun k => R k * A k q) = X at *
  have hb := bcn_le b
  by_cases c : bcn b ≤ 1
  · rw [if_pos c, if_pos ((nle1 (by omega)).mpr c)]
    by_cases c1 : b = 1
    · rw [if_pos c1, if_pos (by rw [c1]; rfl)]
      by_cases c2 : X < 10 * R 0
      · rw [if_pos ((pk_lLT (by omega) (by omega)).mpr c2), if_neg (fun k => by have := of_decide_eq_true k; omega)]
        rfl
      · rw [if_neg (fun k => c2 ((pk_lLT (by omega) (by omega)).mp k)), if_pos (decide_eq_true (by omega))]
        rfl
    · rw [if_neg c1, if_neg (fun k => c1 ((neq1 (by omega)).mp k))]
      rfl
  · rw [if_neg c, if_neg (fun k => c ((nle1 (by omega)).mp k))]
    by_cases c2 : b = 2 ^ m - 1
    · rw [if_pos c2, if_pos (by rw [c2])]
      rfl
    · rw [if_neg c2, if_neg (fun k => c2 ((nI_eq (by omega) (by omega)).mp k))]
      rfl
theorem s_kind (h : II C M) (x1 : Int32) : ∃ (r : Int64) (C' M' : Zs), (f6_kind C x1 = some r ∧ C' = C) ∧ (f7_kind x1 M = some (r, M')) ∧ II C' M' := by
  have h2 := II_t0 h
  unfold f7_kind f6_kind
  rw [ltt]
  generalize zI M 0 0 0 = M2 at h2 ⊢
  rcases h2.2.2.1 with v | ⟨m, g, A, H, Sh, W, v⟩
  · obtain ⟨e1, e2⟩ := gN_good v x1
    rw [e1, e2, if_pos rfl, if_pos rfl]
    exact ⟨_, C, M2, ⟨rfl, rfl⟩, rfl, h2⟩
  rcases gV_good v x1 with ⟨e1, e2⟩ | ⟨q, hq, rfl, e1, e2⟩
  · rw [e1, e2, if_pos rfl, if_pos rfl]
    exact ⟨_, C, M2, ⟨rfl, rfl⟩, rfl, h2⟩
  rw [e1, e2, if_neg i10, if_neg i10]
  obtain ⟨M', R, a1, a2, a3, a4, a5, a6⟩ := p7_kindOf h2 v hq
  rw [a1, bd2s, p6_kindOf v.1 v.2.1 v.2.2.1 hq, bd1s]
  exact ⟨_, C, M', ⟨rfl, rfl⟩, rfl, a2⟩
theorem II_re {w v : Int32} (h : II (zI C 0 11 w) M) : II (zI C 0 11 v) (zI M 0 1 v) :=
  II_set h (fun b e => by rw [zI_rd, if_neg (fun q => e q.2), zI_rd, if_neg (fun q => e q.2)]) (fun a e => by rw [zI_1n _ _ _ e, zI_1n _ _ _ e]) rfl (fun b _ e => by rw [zI_rd, if_neg (fun q => e q.2)]) (fun a e => by rw [zI_1n _ _ _ e]) rfl (by rw [zI_rd, if_pos ⟨rfl, rfl⟩, zI_rd, if_pos ⟨rfl, rfl⟩])
theorem iV_s {w : Int32} (v : iV C M m g A H Sh W) : iV (zI C 0 11 w) (zI M 0 1 w) m g A H Sh W :=
  iV_fr v (by rw [zI_rd, if_neg (by decide)]) ⟨fun a x1 x2 => zI_1n _ _ _ (by omega), rfl⟩ ⟨fun a x1 x2 => zI_1n _ _ _ (by omega), rfl⟩ (fun b x1 x2 => by rw [zI_rd, if_neg (by omega)]) (fun a x1 x2 => zI_1n _ _ _ (by omega)) (fun _ _ _ => rfl)
theorem s_as (h : II C M) (x1 x2 : Int32) : ∃ (r : Int64) (C' M' : Zs), (f6_as x1 x2 C = some (r, C')) ∧ (f7_as x1 x2 M = some (r, M')) ∧ II C' M' := by
  have h2 := II_t0 h
  unfold f7_as f6_as
  rw [ltt]
  generalize zI M 0 0 0 = M2 at h2 ⊢
  rcases h2.2.2.1 with v | ⟨m, g, A, H, Sh, W, v⟩
  · obtain ⟨e1, e2⟩ := gN_good v x1
    rw [e1, e2, if_pos rfl, if_pos rfl]
    exact ⟨_, C, M2, rfl, rfl, h2⟩
  rcases gV_good v x1 with ⟨e1, e2⟩ | ⟨q, hq, rfl, e1, e2⟩
  · rw [e1, e2, if_pos rfl, if_pos rfl]
    exact ⟨_, C, M2, rfl, rfl, h2⟩
  rw [e1, e2, if_neg i10, if_neg i10, show (5 : Int64) = (5 : Int32).toInt64 from rfl, rng_in]
  by_cases c0 : x2 < 0
  · rw [if_pos c0, if_pos c0, if_pos rfl]
    exact ⟨_, C, M2, rfl, rfl, h2⟩
  rw [if_neg c0, if_neg c0]
  rcases Classical.em (¬ (x2 ≤ 5)) with c1 | c1'
  · rw [if_neg c1, if_neg c1, if_pos rfl]
    exact ⟨_, C, M2, rfl, rfl, h2⟩
  have c1 := Classical.not_not.mp c1'
  rw [if_pos c1, if_pos c1, if_neg i10, ltt]
  obtain ⟨k, hk, rfl⟩ := i32_01 c0 (n := 5) (by decide) c1
  obtain ⟨M', R, a1, a2, a3, a4, a5, a6⟩ := p7_kindOf (II_fine h2 0) (iV_s (w := 0) v) hq
  have d1 := v.1.1
  rw [a1, bd2s, p6_isOfKind v.1 v.2.1 v.2.2.1 hq hk, bd1s, kd_isOf _ mkrs_lt (mkrs_ne d1) m (by omega) _ k (by omega)]
  rcases isK_01 (mkrs m A W q) m (dr m A W q) k with e | e
  · rw [e, if_pos rfl, if_pos rfl]
    exact ⟨_, _, _, rfl, rfl, II_re a2⟩
  · rw [e, if_neg i10, if_neg i10]
    exact ⟨_, _, _, rfl, rfl, a2⟩
end KD
