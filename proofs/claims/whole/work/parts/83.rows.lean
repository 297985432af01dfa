/-! row, set, copy, drop -/
section RW
variable {C M C' M' : Zs}
theorem II_rows (h : II C M) (hR : iR C' M') (c0 : ∀ b, b ≠ 11 → C'.1 0 b = C.1 0 b) (c1 : ∀ a, 13 ≤ a → C'.1 a = C.1 a) (c2 : C'.2 = C.2) (m0 : ∀ b, b ≠ 0 → b ≠ 1 → M'.1 0 b = M.1 0 b) (m1 : ∀ a, 4 ≤ a → M'.1 a = M.1 a) (m2 : M'.2 = M.2) (s : C'.1 0 11 = M'.1 0 1) : II C' M' := by
  obtain ⟨h1, h2, h3, h4, h5⟩ := h
  refine ⟨hR, iT_fr h2 (by rw [c1 13 (by omega)]) (by rw [c1 13 (by omega)]) (c1 14 (by omega)) (m0 _ (by decide) (by decide)) (m0 _ (by decide) (by decide)) (m1 10 (by omega)), iW_fr h3 (c0 10 (by decide)) ⟨fun a x1 x2 => c1 a (by omega), by rw [c2]⟩ ⟨fun a x1 x2 => c1 a (by omega), by rw [c2]⟩ (fun b x1 x2 => m0 b (by omega) (by omega)) (fun a x1 x2 => m1 a (by omega)) (fun a x1 x2 => by rw [m2]), iX_fr h4 (by rw [c1 15 (by omega)]) (c1 16 (by omega)) (m0 _ (by decide) (by decide)) (m1 17 (by omega)), s⟩
theorem II_set (h : II C M) (c0 : ∀ b, b ≠ 11 → C'.1 0 b = C.1 0 b) (c1 : ∀ a, a ≠ 0 → C'.1 a = C.1 a) (c2 : C'.2 = C.2) (m0 : ∀ b, b ≠ 0 → b ≠ 1 → M'.1 0 b = M.1 0 b) (m1 : ∀ a, a ≠ 0 → M'.1 a = M.1 a) (m2 : M'.2 = M.2) (s : C'.1 0 11 = M'.1 0 1) : II C' M' :=
  II_rows h (iR_fr h.1 (fun a _ _ => c1 a (by omega)) (fun a _ _ => m1 a (by omega))) c0 (fun a _ => c1 a (by omega)) c2 m0 (fun a _ => m1 a (by omega)) m2 s
theorem II_found (h : II C M) (v w : Int32) : II (zI C 0 11 v) (zI (zI M 0 1 w) 0 1 v) :=
  II_set h (fun b e => by rw [zI_rd, if_neg (fun q => e q.2)]) (fun a e => zI_1n _ _ _ e) rfl (fun b _ e => by rw [zI_rd, if_neg (fun q => e q.2), zI_rd, if_neg (fun q => e q.2)]) (fun a e => by rw [zI_1n _ _ _ e, zI_1n _ _ _ e]) rfl (by rw [zI_rd, if_pos ⟨rfl, rfl⟩, zI_rd, if_pos ⟨rfl, rfl⟩])
theorem II_fine (h : II C M) (v : Int32) : II (zI C 0 11 v) (zI M 0 1 v) :=
  II_set h (fun b e => by rw [zI_rd, if_neg (fun q => e q.2)]) (fun a e => zI_1n _ _ _ e) rfl (fun b _ e => by rw [zI_rd, if_neg (fun q => e q.2)]) (fun a e => by rw [zI_1n _ _ _ e]) rfl (by rw [zI_rd, if_pos ⟨rfl, rfl⟩, zI_rd, if_pos ⟨rfl, rfl⟩])
theorem g_row (x : Int32) : (f2_isRow x = 0 ∧ f7_isRow x = 0) ∨ ∃ r, r < 8 ∧ x = nI r ∧ f2_isRow x = 1 ∧ f7_isRow x = 1 := by
  have e : (nI 8 - 1).toInt64 = 7 := by decide
  have := g_ix (n := 8) (by decide) (by decide) x
  rw [e] at this
  exact this
theorem g_lane (x : Int32) : (f2_isLane x = 0 ∧ f7_in x.toInt64 0 2 = 0) ∨ ∃ l, l ≤ 2 ∧ x = nI l ∧ f2_isLane x = 1 ∧ f7_in x.toInt64 0 2 = 1 := by
  rw [show (2 : Int64) = (2 : Int32).toInt64 from rfl, rng_in]
  unfold f2_isLane
  by_cases c0 : x < 0
  · rw [if_pos c0, if_pos c0]
    exact Or.inl ⟨rfl, rfl⟩
  · rw [if_neg c0, if_neg c0]
    by_cases c1 : x ≤ 2
    · obtain ⟨j, hj, rfl⟩ := i32_01 c0 (n := 2) (by decide) c1
      right
      refine ⟨j, hj, rfl, ?_, ?_⟩
      · rw [if_neg (fun k => (i32lt _ _).mpr k c1)]
      · rw [if_pos c1]
    · left
      rw [if_pos ((i32lt _ _).mp c1), if_neg c1]
      exact ⟨rfl, rfl⟩
theorem ix40 {l q : Nat} : ((40 : Int32) * nI l) + nI q = nI (40 * l + q) := by rw [show (40 : Int32) = nI 40 from rfl, pk_mul, nI_add]
theorem p2_mk (r n : Nat) (hr : r < 8) (hn : n ≤ 40) : ∀ k i (S : Zs), i ≤ n → n - i < k → (∀ j, j < i → S.1 (3 + r) j = 0) → ∃ S', f2_make_17 k (nI r) (nI n) (nI i) S = some S' ∧ (∀ a, a ≠ 3 + r → S'.1 a = S.1 a) ∧ S'.2 = S.2 ∧ ∀ j, j < n → S'.1 (3 + r) j = 0 := by
  intro k
  induction k with
  | zero => intro i S _ h; omega
  | succ k ih =>
    intro i S hi hk h0
    unfold f2_make_17
    by_cases e : n ≤ i
    · rw [if_pos (nI_le e (by omega))]
      exact ⟨S, rfl, fun _ _ => rfl, rfl, fun j hj => h0 j (by omega)⟩
    · rw [if_neg (nI_ge (by omega) (by omega)), if_pos (inb_nI hr (by decide)), if_pos (inb_nI (show i < 40 by omega) (by decide)), ltt, ltt, nI_clamp (by omega), nI_clamp (by omega), show nI i + 1 = nI (i + 1) from nI_1 _]
      obtain ⟨S', a1, a2, a3, a4⟩ := ih (i + 1) (zI S (3 + r) i 0) (by omega) (by omega) (fun j hj => by
        rw [zI_rd]
        by_cases c : j = i
        · rw [if_pos ⟨rfl, c⟩]
        · rw [if_neg (fun q => c q.2)]
          exact h0 j (by omega))
      exact ⟨S', a1, fun a ha => by rw [a2 a ha, zI_1n _ _ _ ha], a3, a4⟩
theorem p2_make {r n : Nat} (hr : r < 8) (hn : n ≤ 40) (x2 : Int32) : ∃ S', f2_make (nI r) x2 (nI n) C = some S' ∧ (∀ a, a ≠ 3 + r → a ≠ 11 → a ≠ 12 → S'.1 a = C.1 a) ∧ S'.2 = C.2 ∧ (∀ b, S'.1 11 b = if b = r then x2 else C.1 11 b) ∧ (∀ b, S'.1 12 b = if b = r then nI n else C.1 12 b) ∧ ∀ j, j < n → S'.1 (3 + r) j = 0 := by
  obtain ⟨S', a1, a2, a3, a4⟩ := p2_mk r n hr hn fuel0 0 (zI (zI C 11 r x2) 12 r (nI n)) (by omega) (by unfold fuel0; omega) (fun j hj => by omega)
  refine ⟨S', ?_, fun a h1 h2 h3 => by rw [a2 a h1, zI_1n _ _ _ h3, zI_1n _ _ _ h2], a3, fun b => ?_, fun b => ?_, a4⟩
  · unfold f2_make
    rw [if_pos (inb_nI hr (by decide)), ltt, if_pos (inb_nI hr (by decide)), ltt, nI_clamp (by omega)]
    exact a1
  · rw [a2 11 (by omega), zI_1n _ _ _ (by decide), zI_rd]
    by_cases c : b = r
    · rw [if_pos ⟨rfl, c⟩, if_pos c]
    · rw [if_neg (fun q => c q.2), if_neg c]
  · rw [a2 12 (by omega), zI_rd, zI_1n _ _ _ (by decide)]
    by_cases c : b = r
    · rw [if_pos ⟨rfl, c⟩, if_pos c]
    · rw [if_neg (fun q => c q.2), if_neg c]
theorem p7_rowz (r : Nat) (hr : r < 8) (x3 : Int32) : ∀ k i (S : Zs), i ≤ 40 → 40 - i < k → (∀ j, j < i → S.1 3 (40 * r + j) = 0) → ∃ S', f7_row_66 k (nI r) x3 (nI i) S = some (x3.toInt64, S') ∧ (∀ a, a ≠ 3 → S'.1 a = S.1 a) ∧ S'.2 = S.2 ∧ (∀ b, (b < 40 * r ∨ 40 * r + 40 ≤ b) → S'.1 3 b = S.1 3 b) ∧ ∀ j, j < 40 → S'.1 3 (40 * r + j) = 0 := by
  intro k
  induction k with
  | zero => intro i S _ h; omega
  | succ k ih =>
    intro i S hi hk h0
    unfold f7_row_66
    by_cases e : 40 ≤ i
    · rw [if_pos (show (40 : Int32) ≤ nI i from nI_le (a := 40) e (by omega))]
      exact ⟨S, rfl, fun _ _ => rfl, rfl, fun _ _ => rfl, fun j hj => h0 j (by omega)⟩
    · rw [if_neg (show ¬ (40 : Int32) ≤ nI i from nI_ge (b := 40) (by omega) (by omega)), ix40, if_pos (inb_nI (show 40 * r + i < 320 by omega) (by decide)), ltt, ltt, nI_clamp (by omega), show nI i + 1 = nI (i + 1) from nI_1 _]
      obtain ⟨S', a1, a2, a3, a4, a5⟩ := ih (i + 1) (zI S 3 (40 * r + i) 0) (by omega) (by omega) (fun j hj => by
        rw [zI_rd]
        by_cases c : j = i
        · rw [if_pos ⟨rfl, by omega⟩]
        · rw [if_neg (fun q => c (by omega))]
          exact h0 j (by omega))
      exact ⟨S', a1, fun a ha => by rw [a2 a ha, zI_1n _ _ _ ha], a3, fun b hb => by rw [a4 b hb, zI_rd, if_neg (fun q => by omega)], a5⟩
theorem s_row (h : II C M) (x1 x2 x3 : Int32) : ∃ (r : Int64) (C' M' : Zs), (f6_row x1 x2 x3 C = some (r, C')) ∧ (f7_row x1 x2 x3 M = some (r, M')) ∧ II C' M' := by
  have h2 := II_t0 h
  unfold f7_row f6_row
  rw [ltt]
  generalize zI M 0 0 0 = M2 at h2 ⊢
  rcases g_row x1 with ⟨e1, e2⟩ | ⟨r, hr, rfl, e1, e2⟩
  · rw [e1, e2, if_pos rfl, if_pos rfl]
    exact ⟨_, C, M2, rfl, rfl, h2⟩
  rw [e1, e2, if_neg i10, if_neg i10]
  rcases g_lane x2 with ⟨e1, e2⟩ | ⟨l, hl, rfl, e1, e2⟩
  · rw [e1, e2, if_pos rfl, if_pos rfl]
    exact ⟨_, C, M2, rfl, rfl, h2⟩
  rw [e1, e2, if_neg i10, if_neg i10]
  by_cases c : x3 ≤ 40
  · rw [if_pos c, if_pos c, ltt]
    by_cases c0 : 0 ≤ x3
    · rw [if_pos c0, if_pos c0]
      obtain ⟨n, hn, rfl⟩ := i32_01 ((i32le _ _).mpr c0) (n := 40) (by decide) c
      obtain ⟨S', a1, a2, a3, a4, a5, a6⟩ := p2_make (C := C) hr hn (nI l)
      obtain ⟨T', b1, b2, b3, b4, b5⟩ := p7_rowz r hr (nI n) fuel0 0 (zI (zI (zI M2 0 1 0) 1 r (nI l)) 2 r (nI n)) (by omega) (by unfold fuel0; omega) (fun j hj => by omega)
      rw [if_pos (inb_nI hr (by decide)), ltt, if_pos (inb_nI hr (by decide)), ltt, nI_clamp (show r < 2 ^ 31 by omega)]
      refine ⟨_, _, T', by rw [a1, bd1s]; rfl, b1, ?_⟩
      refine II_rows h2 ?_ (fun b e => by rw [zI_rd, if_neg (fun q => e q.2), a2 0 (by omega) (by decide) (by decide)]) (fun a e => by rw [zI_1n _ _ _ (by omega), a2 a (by omega) (by omega) (by omega)]) a3 (fun b _ e => by rw [b2 0 (by decide), zI_1n _ _ _ (by decide), zI_1n _ _ _ (by decide), zI_rd, if_neg (fun q => e q.2)]) (fun a e => by rw [b2 a (by omega), zI_1n _ _ _ (by omega), zI_1n _ _ _ (by omega), zI_1n _ _ _ (by omega)]) b3 (by rw [zI_rd, if_pos ⟨rfl, rfl⟩, b2 0 (by decide), zI_1n _ _ _ (by decide), zI_1n _ _ _ (by decide), zI_rd, if_pos ⟨rfl, rfl⟩])
      intro r' hr'
      rw [zI_1n _ _ _ (show 12 ≠ 0 by decide), zI_1n _ _ _ (show 11 ≠ 0 by decide), zI_1n _ _ _ (show 3 + r' ≠ 0 by omega), a4, a5, b2 1 (by decide), b2 2 (by decide), zI_1n _ _ _ (show 1 ≠ 2 by decide), zI_rd _ 2, zI_1n _ _ _ (show 2 ≠ 1 by decide), zI_1n _ _ _ (show 2 ≠ 0 by decide), zI_rd _ 1, zI_1n _ _ _ (show 1 ≠ 0 by decide)]
      by_cases c : r' = r
      · subst c
        right
        rw [if_pos rfl, if_pos rfl, if_pos ⟨rfl, rfl⟩, if_pos ⟨rfl, rfl⟩]
        exact ⟨n, l, hn, hl, rfl, rfl, rfl, rfl, fun i hi => by rw [a6 i hi, b5 i (by omega)]⟩
      · rw [if_neg c, if_neg c, if_neg (fun q => c q.2), if_neg (fun q => c q.2), a2 (3 + r') (by omega) (by omega) (by omega)]
        rcases h2.1 r' hr' with x | ⟨n', l', y1, y2, y3, y4, y5, y6, y7⟩
        · exact Or.inl x
        · right
          refine ⟨n', l', y1, y2, y3, y4, y5, y6, fun i hi => ?_⟩
          rw [b4 (40 * r' + i) (by omega), zI_1n _ _ _ (show 3 ≠ 2 by decide), zI_1n _ _ _ (show 3 ≠ 1 by decide), zI_1n _ _ _ (show 3 ≠ 0 by decide)]
          exact y7 i hi
    · rw [if_neg c0, if_neg c0]
      exact ⟨_, _, _, rfl, rfl, II_found h2 4 0⟩
  · rw [if_neg c, if_neg c]
    exact ⟨_, C, M2, rfl, rfl, h2⟩
end RW
