/-! READING: the whole text; world -/
section WD
variable {C M C' M' : Zs} {N m g s : Nat} {T : Nat → Nat}
/-- how the reading ends -/
def oe (C M : Zs) (r : Int32) (C' M' : Zs) : Prop := cR C C' ∧ mR M M' ∧ ((r = 1 ∧ C'.1 13 2 = C.1 13 2 ∧ M'.1 0 23 = 0 ∧ ∃ m g, 1 ≤ m ∧ 1 ≤ g ∧ drf C' M' m g) ∨ (r = 0 ∧ FL C' M'))
theorem oe.pre {C0 M0 : Zs} {r : Int32} (h : oe C M r C' M') (c : cR C0 C) (m' : mR M0 M) (e : C.1 13 2 = C0.1 13 2) : oe C0 M0 r C' M' := by
  obtain ⟨h1, h2, h3⟩ := h
  refine ⟨c.tr h1, m'.tr h2, ?_⟩
  rcases h3 with ⟨a, b, d⟩ | d
  · exact Or.inl ⟨a, b.trans e, d⟩
  · exact Or.inr d
theorem f77_0 (n : Nat) (x : Int32) : f3_readInto_77 55 (n + 1) 0 x C = some (0, C) := by
  rw [f3_readInto_77]
  dsimp only
  unfold f3_readInto_106
  rw [if_pos (show (0 : Int32) = 0 from rfl), if_pos (show (0 : Int32) = 0 from rfl)]
  split <;> rfl
theorem f57_0 : f3_readInto_57 55 0 C = some (0, C) := by
  unfold f3_readInto_57 f3_readInto_73 f3_readInto_74
  rw [if_pos rfl]
  exact f77_0 999 0
theorem f27_0 (n : Nat) (x : Int32) : f3_readInto_27 55 (n + 1) 0 x C = some (0, C) := by
  rw [f3_readInto_27]
  dsimp only
  rw [f57_0, if_pos (show (0 : Int32) = 0 from rfl)]
  split <;> rfl
theorem f74_F (h : FL C M) (n : Nat) : f7_world_74 (n + 1) M = f7_world_96 M := by
  obtain ⟨k, p, f1, f2, f3, f4, f5, f6, f7⟩ := h
  rw [f7_world_74]
  dsimp only
  rw [if_neg (fa_ne f1 f2 f6)]
theorem f46_F (h : FL C M) (n : Nat) : f7_world_46 (n + 1) M = f7_world_96 M := by
  have h' := h
  obtain ⟨k, p, f1, f2, f3, f4, f5, f6, f7⟩ := h
  rw [f7_world_46]
  dsimp only
  rw [fa_isWord f1 f2 f6, bd1s, if_pos rfl, if_neg (fa_ne f1 f2 f6)]
  exact f74_F h' 999
theorem r_lands (ht : txt N T) (hg : 1 ≤ g) : ∀ n k s (C M : Zs), k ≤ 2 → 3 - k < n → tk C M N T s → drf C M (k + 1) g → ∃ r C' M', f3_readInto_77 55 n 1 (nI k) C = some (r, C') ∧ f7_world_74 n M = f7_world_96 M' ∧ oe C M r C' M' := by
  have hN := ht.1
  intro n
  induction n with
  | zero => intro k s C M _ h; omega
  | succ n ih =>
    intro k s C M hk hn h d
    have kl := kC_le (T := T) (N := N) (s := s)
    have ml := kM_lt (T := T) (N := N) (s := s)
    have h' := h
    obtain ⟨h1, h2, h3, h4, h5, h6, h7, h8, h9, h10, h11, h12⟩ := h
    rw [f3_readInto_77, f7_world_74]
    dsimp only
    rw [show (3 : Int32) = nI 3 from rfl, if_neg (nI_ge (show k < 3 by omega) (by omega)), if_neg i10, h4, h12, if_pos rfl, h11, show (2 : Int32) = nI 2 from rfl, iNeq (by omega) (by omega), ← nI1, iNeq (by omega) (by omega)]
    by_cases c2 : kC T N s = 2
    · rw [if_pos c2, if_neg (show ¬ kM T N s = 1 from fun z => by have := k_0.mpr z; omega)]
      obtain ⟨r, C1, M1, o1, o2, o3, o4, o5⟩ := r_land ht h' d
      rw [o1, o2, bd2s, bd1s, ltt, show nI k + nI 1 = nI (k + 1) from nI_1 k]
      rcases o5 with ⟨e1, e2, ⟨s1, e3⟩, e4⟩ | ⟨e1, e2⟩
      · rw [e1]
        have := e4.2.2.2.2.1
        obtain ⟨r2, C2, M2, p1, p2, p3⟩ := ih (k + 1) s1 C1 M1 (by omega) (by omega) e3 e4
        rw [p1, p2]
        exact ⟨r2, C2, M2, rfl, rfl, p3.pre o3 o4 e2⟩
      · obtain ⟨n, rfl⟩ : ∃ j, n = j + 1 := ⟨n - 1, by omega⟩
        rw [e1, f77_0, f74_F e2]
        exact ⟨0, C1, M1, rfl, rfl, o3, o4, Or.inr ⟨rfl, e2⟩⟩
    · rw [if_neg c2]
      unfold f3_readInto_106
      rw [if_neg (show ¬ nI 1 = 0 by decide), h4, show (0 : Int32) = nI 0 from rfl, iNeq (by omega) (by omega)]
      by_cases c0 : kC T N s = 0
      · rw [if_pos c0, if_pos (k_0.mp c0)]
        exact ⟨1, C, M, rfl, rfl, cR.rf, mR.rf, Or.inl ⟨rfl, rfl, h12, k + 1, g, by omega, hg, d⟩⟩
      · obtain ⟨M1, e1, e2, e3, e4⟩ := m_noland ht h' d c2
        obtain ⟨C1, b1, b2, b3, b4⟩ := p3_blame (C := C) 1 h2
        have fl : FL C1 M1 := fl_mk (k := 1) (by omega) (by omega) (by omega) b3 b4 e3 e4
        obtain ⟨n, rfl⟩ : ∃ j, n = j + 1 := ⟨n - 1, by omega⟩
        rw [if_neg c0, if_neg (fun z => c0 (k_0.mpr z)), b1, bd2s, if_pos (show (0 : Int32) = nI 0 from rfl), e1, bd1s, f74_F fl]
        exact ⟨0, C1, M1, rfl, rfl, b2, e2, Or.inr ⟨rfl, fl⟩⟩
theorem r_goods (ht : txt N T) : ∀ n k s (C M : Zs), k ≤ 5 → 6 - k < n → tk C M N T s → drf C M 0 (k + 1) → ∃ r C' M', f3_readInto_27 55 n 1 (nI k) C = some (r, C') ∧ f7_world_46 n M = f7_world_96 M' ∧ oe C M r C' M' := by
  have hN := ht.1
  intro n
  induction n with
  | zero => intro k s C M _ h; omega
  | succ n ih =>
    intro k s C M hk hn h d
    have kl := kC_le (T := T) (N := N) (s := s)
    have iw := (p7_isWord ht h.2.2.2.2.2).1
    have h12 := h.2.2.2.2.2.2.2.2.2.2.2
    rw [f3_readInto_27, f7_world_46]
    dsimp only
    rw [show (6 : Int32) = nI 6 from rfl, if_neg (nI_ge (show k < 6 by omega) (by omega)), if_neg i10, h.2.2.2.1, iw, bd1s, ← nI1, iNeq (by omega) (by omega)]
    by_cases c1 : kC T N s = 1
    · rw [if_pos c1, if_pos c1, if_neg (show ¬ nI 1 = 0 by decide)]
      obtain ⟨r, C1, M1, o1, o2, o3, o4, o5⟩ := r_good ht h d
      rw [o1, o2, bd2s, bd1s, ltt, show nI k + nI 1 = nI (k + 1) from nI_1 k]
      rcases o5 with ⟨e1, e2, ⟨s1, e3⟩, e4⟩ | ⟨e1, e2⟩
      · rw [e1]
        have := e4.2.2.2.2.2.1
        obtain ⟨r2, C2, M2, p1, p2, p3⟩ := ih (k + 1) s1 C1 M1 (by omega) (by omega) e3 e4
        rw [p1, p2]
        exact ⟨r2, C2, M2, rfl, rfl, p3.pre o3 o4 e2⟩
      · obtain ⟨n, rfl⟩ : ∃ j, n = j + 1 := ⟨n - 1, by omega⟩
        rw [e1, f27_0, f46_F e2]
        exact ⟨0, C1, M1, rfl, rfl, o3, o4, Or.inr ⟨rfl, e2⟩⟩
    · rw [if_neg c1, if_neg c1, if_pos rfl, h12, if_pos rfl]
      unfold f3_readInto_57 f3_readInto_73 f3_readInto_74
      obtain ⟨r, C1, M1, o1, o2, o3, o4, o5⟩ := r_land ht h d
      rw [if_neg (show ¬ nI 1 = 0 by decide), o1, o2, bd2s, bd1s]
      rcases o5 with ⟨e1, e2, ⟨s1, e3⟩, e4⟩ | ⟨e1, e2⟩
      · obtain ⟨r2, C2, M2, p1, p2, p3⟩ := r_lands ht (by omega) fuel0 0 s1 C1 M1 (by omega) (by unfold fuel0; omega) e3 e4
        rw [if_neg (show ¬ r = 0 by rw [e1]; decide)]
        rw [show f3_readInto_77 55 fuel0 1 0 C1 = some (r2, C2) from p1, p2]
        exact ⟨r2, C2, M2, rfl, rfl, p3.pre o3 o4 e2⟩
      · rw [if_pos e1, show fuel0 = 999 + 1 from rfl, f77_0, f74_F e2]
        exact ⟨0, C1, M1, rfl, rfl, o3, o4, Or.inr ⟨rfl, e2⟩⟩
/-- the copy of the draft -/
theorem w_copy (S : Zs) : ∀ n j (S1 : Zs), j ≤ 18 → 18 - j < n → S1.2 = S.2 → (∀ a, a ≠ 4 → a ≠ 5 → a ≠ 6 → S1.1 a = S.1 a) → (∀ k, k < j → S1.1 6 k = S.1 9 k ∧ S1.1 4 (k % 6) = S.1 7 (k % 6) ∧ S1.1 5 (k % 3) = S.1 8 (k % 3)) → ∃ S', f7_world_139 n (nI j) S1 = some ((S.1 0 5).toInt64, S') ∧ S'.2 = S.2 ∧ (∀ a, a ≠ 0 → a ≠ 4 → a ≠ 5 → a ≠ 6 → S'.1 a = S.1 a) ∧ (∀ b, b ≠ 25 → b ≠ 29 → S'.1 0 b = S.1 0 b) ∧ S'.1 0 25 = 0 ∧ S'.1 0 29 = 0 ∧ (∀ k, k < 18 → S'.1 6 k = S.1 9 k) ∧ (∀ k, k < 6 → S'.1 4 k = S.1 7 k) ∧ ∀ k, k < 3 → S'.1 5 k = S.1 8 k := by
  intro n
  induction n with
  | zero => intro j S1 _ h; omega
  | succ n ih =>
    intro j S1 hj hn e2 e1 ek
    rw [f7_world_139]
    dsimp only
    rw [show (18 : Int32) = nI 18 from rfl]
    by_cases e : 18 ≤ j
    · rw [if_pos (nI_le e (by omega)), ltt, ltt]
      refine ⟨zI (zI S1 0 25 0) 0 29 0, ?_, e2, fun a a0 a4 a5 a6 => ?_, fun b b1 b2 => ?_, ?_, ?_, fun k hk => ?_, fun k hk => ?_, fun k hk => ?_⟩
      · rw [zI_rd, if_neg (by decide), zI_rd, if_neg (by decide), e1 0 (by decide) (by decide) (by decide)]
      · rw [zI_1n _ _ _ a0, zI_1n _ _ _ a0, e1 a a4 a5 a6]
      · rw [zI_rd, if_neg (fun z => b2 z.2), zI_rd, if_neg (fun z => b1 z.2), e1 0 (by decide) (by decide) (by decide)]
      · rw [zI_rd, if_neg (by decide), zI_rd, if_pos ⟨rfl, rfl⟩]
      · rw [zI_rd, if_pos ⟨rfl, rfl⟩]
      · rw [zI_1n _ _ _ (by decide), zI_1n _ _ _ (by decide)]
        exact (ek k (by omega)).1
      · rw [zI_1n _ _ _ (by decide), zI_1n _ _ _ (by decide)]
        have := (ek k (by omega)).2.1
        rw [Nat.mod_eq_of_lt hk] at this
        exact this
      · rw [zI_1n _ _ _ (by decide), zI_1n _ _ _ (by decide)]
        have := (ek k (by omega)).2.2
        rw [Nat.mod_eq_of_lt hk] at this
        exact this
    · have l6 := Nat.mod_lt j (show 6 > 0 by decide)
      have l3 := Nat.mod_lt j (show 3 > 0 by decide)
      rw [if_neg (nI_ge (by omega) (by omega)), if_pos (inb_nI (by omega) (by decide)), if_pos (inb_nI (by omega) (by decide)), ltt, if_neg (show ¬ (6 : Int32) = 0 by decide), if_neg (show ¬ (6 : Int32) = 0 by decide), show (6 : Int32) = nI 6 from rfl, pk_rem (by omega) (by decide) (by decide), if_pos (inb_nI l6 (by decide)), if_pos (inb_nI l6 (by decide)), ltt, if_neg (show ¬ (3 : Int32) = 0 by decide), if_neg (show ¬ (3 : Int32) = 0 by decide), show (3 : Int32) = nI 3 from rfl, pk_rem (by omega) (by decide) (by decide), if_pos (inb_nI l3 (by decide)), if_pos (inb_nI l3 (by decide)), ltt, ltt, nI_1 j, nI_clamp (show j < 2 ^ 31 by omega), nI_clamp (show j % 6 < 2 ^ 31 by omega), nI_clamp (show j % 3 < 2 ^ 31 by omega)]
      have v9 : S1.1 9 j = S.1 9 j := by rw [e1 9 (by decide) (by decide) (by decide)]
      have v7 : (zI S1 6 j (S.1 9 j)).1 7 (j % 6) = S.1 7 (j % 6) := by rw [zI_1n _ _ _ (by decide), e1 7 (by decide) (by decide) (by decide)]
      have v8 : (zI (zI S1 6 j (S.1 9 j)) 4 (j % 6) (S.1 7 (j % 6))).1 8 (j % 3) = S.1 8 (j % 3) := by rw [zI_1n _ _ _ (by decide), zI_1n _ _ _ (by decide), e1 8 (by decide) (by decide) (by decide)]
      rw [v9, v7, v8]
      refine ih (j + 1) _ (by omega) (by omega) e2 (fun a a4 a5 a6 => ?_) (fun k hk => ?_)
      · rw [zI_1n _ _ _ a5, zI_1n _ _ _ a4, zI_1n _ _ _ a6, e1 a a4 a5 a6]
      · refine ⟨?_, ?_, ?_⟩
        · rw [zI_1n _ _ _ (by decide), zI_1n _ _ _ (by decide), zI_rd]
          by_cases c : k = j
          · rw [if_pos ⟨rfl, c⟩, c]
          · rw [if_neg (fun z => c z.2)]; exact (ek k (by omega)).1
        · rw [zI_1n _ _ _ (by decide), zI_rd]
          by_cases c : k % 6 = j % 6
          · rw [if_pos ⟨rfl, c⟩, c]
          · rw [if_neg (fun z => c z.2), zI_1n _ _ _ (by decide)]
            exact (ek k (by
              by_cases q : k = j
              · exact absurd (by rw [q]) c
              · omega)).2.1
        · rw [zI_rd]
          by_cases c : k % 3 = j % 3
          · rw [if_pos ⟨rfl, c⟩, c]
          · rw [if_neg (fun z => c z.2), zI_1n _ _ _ (by decide), zI_1n _ _ _ (by decide)]
            exact (ek k (by
              by_cases q : k = j
              · exact absurd (by rw [q]) c
              · omega)).2.2
/-- the drafts as data -/
theorem drf_dat (h : drf C M m g) (hm : 1 ≤ m) (hg : 1 ≤ g) : ∃ A H Sh, dat m g A H Sh ∧ cW C 55 m g A H Sh ∧ (∀ q, q < g → M.1 7 q = nI (Sh q)) ∧ (∀ l, l < m → M.1 8 l = nI (H l)) ∧ ∀ l q, l < m → q < g → M.1 9 (6 * l + q) = nI (A l q) := by
  obtain ⟨d1, d2, d3, d4, d5, d6, d7, d8, d9⟩ := h
  refine ⟨fun l q => (C.1 (59 + l) q).toNatClampNeg, fun l => (C.1 57 l).toNatClampNeg, fun q => (C.1 56 q).toNatClampNeg, ⟨⟨hm, d5⟩, ⟨hg, d6⟩, fun l hl => ?_, fun q hq => ?_, fun l q hl hq => ?_⟩, ⟨d1, d2, fun q hq => ?_, fun l hl => ?_, fun l q hl hq => ?_⟩, fun q hq => ?_, fun l hl => ?_, fun l q hl hq => ?_⟩
  · obtain ⟨v, v1, v2, v3, v4⟩ := d8 l hl
    show 1 ≤ (C.1 57 l).toNatClampNeg ∧ (C.1 57 l).toNatClampNeg ≤ 99
    rw [v3, nI_clamp (by omega)]
    exact ⟨v1, v2⟩
  · obtain ⟨v, v1, v2, v3, v4⟩ := d7 q hq
    show 1 ≤ (C.1 56 q).toNatClampNeg ∧ (C.1 56 q).toNatClampNeg ≤ 20
    rw [v3, nI_clamp (by omega)]
    exact ⟨v1, v2⟩
  · obtain ⟨v, v1, v2, v3, v4⟩ := d9 l q hl hq
    show 1 ≤ (C.1 (59 + l) q).toNatClampNeg ∧ (C.1 (59 + l) q).toNatClampNeg ≤ 20
    rw [v3, nI_clamp (by omega)]
    exact ⟨v1, v2⟩
  · obtain ⟨v, v1, v2, v3, v4⟩ := d7 q hq
    show C.1 56 q = nI (C.1 56 q).toNatClampNeg
    rw [v3, nI_clamp (by omega)]
  · obtain ⟨v, v1, v2, v3, v4⟩ := d8 l hl
    show C.1 57 l = nI (C.1 57 l).toNatClampNeg
    rw [v3, nI_clamp (by omega)]
  · obtain ⟨v, v1, v2, v3, v4⟩ := d9 l q hl hq
    show C.1 (59 + l) q = nI (C.1 (59 + l) q).toNatClampNeg
    rw [v3, nI_clamp (by omega)]
  · obtain ⟨v, v1, v2, v3, v4⟩ := d7 q hq
    rw [v4]
    show nI v = nI (C.1 56 q).toNatClampNeg
    rw [v3, nI_clamp (by omega)]
  · obtain ⟨v, v1, v2, v3, v4⟩ := d8 l hl
    rw [v4]
    show nI v = nI (C.1 57 l).toNatClampNeg
    rw [v3, nI_clamp (by omega)]
  · obtain ⟨v, v1, v2, v3, v4⟩ := d9 l q hl hq
    rw [v4]
    show nI v = nI (C.1 (59 + l) q).toNatClampNeg
    rw [v3, nI_clamp (by omega)]
/-- the reading of both, from the tape on -/
theorem r_all (h : II C M) : ∃ r C' M' M0, f3_readInto 55 C = some (r, C') ∧ f7_world M = f7_world_96 M' ∧ oe C M0 r C' M' ∧ M0.2 = M.2 ∧ (∀ a, a ≠ 0 → M0.1 a = M.1 a) ∧ (∀ b, (2 ≤ b ∧ b < 10) ∨ b = 1 ∨ b = 17 ∨ 25 ≤ b → M0.1 0 b = M.1 0 b) ∧ M0.1 0 16 = 0 := by
  obtain ⟨N, n1, n2, n3, n4, n5⟩ := h.2.1
  obtain ⟨T, hT⟩ : ∃ T : Nat → Nat, T = fun k => (M.1 10 k).toNatClampNeg := ⟨_, rfl⟩
  have tv : ∀ k, k < N → T k < 256 ∧ M.1 10 k = nI (T k) ∧ C.1 14 k = (nI (T k)).toInt8.toInt32 := by
    intro k hk
    obtain ⟨v, v1, v2, v3⟩ := n5 k hk
    have : T k = v := by rw [hT]; show (M.1 10 k).toNatClampNeg = v; rw [v2, nI_clamp (by omega)]
    rw [this]
    exact ⟨v1, v2, v3⟩
  have ht : txt N T := ⟨n1, fun k hk => (tv k hk).1⟩
  obtain ⟨M0, hM0⟩ : ∃ M0, M0 = zI (zI (zI (zI (zI (zI (zI M 0 0 0) 0 18 (nI N)) 0 16 0) 0 19 0) 0 23 0) 0 10 0) 0 11 0 := ⟨_, rfl⟩
  have r0 : ∀ b, b ≠ 0 → b ≠ 18 → b ≠ 16 → b ≠ 19 → b ≠ 23 → b ≠ 10 → b ≠ 11 → M0.1 0 b = M.1 0 b := fun b b1 b2 b3 b4 b5 b6 b7 => by
    rw [hM0, zI_rd, if_neg (fun z => b7 z.2), zI_rd, if_neg (fun z => b6 z.2), zI_rd, if_neg (fun z => b5 z.2), zI_rd, if_neg (fun z => b4 z.2), zI_rd, if_neg (fun z => b3 z.2), zI_rd, if_neg (fun z => b2 z.2), zI_rd, if_neg (fun z => b1 z.2)]
  have r1 : ∀ a, a ≠ 0 → M0.1 a = M.1 a := fun a e => by
    rw [hM0, zI_1n _ _ _ e, zI_1n _ _ _ e, zI_1n _ _ _ e, zI_1n _ _ _ e, zI_1n _ _ _ e, zI_1n _ _ _ e, zI_1n _ _ _ e]
  have r2 : M0.2 = M.2 := by rw [hM0]; rfl
  have x11 : M0.1 0 11 = 0 := by rw [hM0, zI_rd, if_pos ⟨rfl, rfl⟩]
  have x10 : M0.1 0 10 = 0 := by rw [hM0, zI_rd, if_neg (by decide), zI_rd, if_pos ⟨rfl, rfl⟩]
  have x23 : M0.1 0 23 = 0 := by rw [hM0, zI_rd, if_neg (by decide), zI_rd, if_neg (by decide), zI_rd, if_pos ⟨rfl, rfl⟩]
  have x19 : M0.1 0 19 = nI 0 := by rw [hM0, zI_rd, if_neg (by decide), zI_rd, if_neg (by decide), zI_rd, if_neg (by decide), zI_rd, if_pos ⟨rfl, rfl⟩]; rfl
  have x16 : M0.1 0 16 = 0 := by rw [hM0, zI_rd, if_neg (by decide), zI_rd, if_neg (by decide), zI_rd, if_neg (by decide), zI_rd, if_neg (by decide), zI_rd, if_pos ⟨rfl, rfl⟩]
  have x18 : M0.1 0 18 = nI N := by rw [hM0, zI_rd, if_neg (by decide), zI_rd, if_neg (by decide), zI_rd, if_neg (by decide), zI_rd, if_neg (by decide), zI_rd, if_neg (by decide), zI_rd, if_pos ⟨rfl, rfl⟩]
  have eM : f7_world M = bd1 (f7_next M0) fun S39 => bd1 (f7_readGood S39) fun S43 => f7_world_46 fuel0 S43 := by
    unfold f7_world
    rw [ltt, ltt, ltt, ltt, ltt, ltt, ltt, zI_rd, if_neg (by decide), n3, ← hM0]
  rw [eM]
  obtain ⟨C0, hC0⟩ : ∃ C0, C0 = zI (zI (zI C 55 1 0) 55 0 0) 13 5 0 := ⟨_, rfl⟩
  have y1 : ∀ a, a ≠ 13 → a ≠ 55 → C0.1 a = C.1 a := fun a a1 a2 => by rw [hC0, zI_1n _ _ _ a1, zI_1n _ _ _ a2, zI_1n _ _ _ a2]
  have y13 : ∀ b, b ≠ 5 → C0.1 13 b = C.1 13 b := fun b hb => by rw [hC0, zI_rd, if_neg (fun z => hb z.2), zI_1n _ _ _ (by decide), zI_1n _ _ _ (by decide)]
  have y5 : C0.1 13 5 = nI 0 := by rw [hC0, zI_rd, if_pos ⟨rfl, rfl⟩]; rfl
  have y55 : C0.1 55 0 = 0 ∧ C0.1 55 1 = 0 := by
    rw [hC0, zI_1n _ _ _ (by decide)]
    exact ⟨by rw [zI_rd, if_pos ⟨rfl, rfl⟩], by rw [zI_rd, if_neg (by decide), zI_rd, if_pos ⟨rfl, rfl⟩]⟩
  have yR : cR C C0 := ⟨by rw [hC0]; rfl, fun a a1 a2 => y1 a a1 (by omega), y13 1 (by decide)⟩
  unfold f3_readInto
  rw [ltt, ltt, ltt, ← hC0]
  have tC : tpC C0 N T := ⟨(y13 1 (by decide)).trans n2, fun k hk => by rw [y1 14 (by decide) (by decide)]; exact (tv k hk).2.2⟩
  have tM : tpM M0 N T := ⟨x18, fun k hk => by rw [r1 10 (by decide)]; exact (tv k hk).2.1⟩
  obtain ⟨C1, a1, a2, a3, a4, a5, a6⟩ := p3_step ht tC (Nat.zero_le N) y5
  obtain ⟨M1, b1, b2, b3, b4, b5, b6⟩ := p7_next ht tM (Nat.zero_le N) x19
  have sl := tS_le (T := T) (Nat.zero_le N)
  have tk1 : tk C1 M1 N T (tS T N 0) := ⟨tpC_4 tC a2, a3, a4, a5, a6, sl.2, tpM_4 tM b2, b3, b4, b5, b6, (b2.2.2 23 (by omega)).trans x23⟩
  have dr1 : drf C1 M1 0 0 := ⟨by rw [a2.2.1 55 (by decide)]; exact y55.1, by rw [a2.2.1 55 (by decide)]; exact y55.2, (b2.2.2 10 (by omega)).trans x10, (b2.2.2 11 (by omega)).trans x11, by omega, by omega, fun q hq => by omega, fun l hl => by omega, fun l q hl => by omega⟩
  obtain ⟨r, C2, M2, o1, o2, o3, o4, o5⟩ := r_good ht tk1 dr1
  have e2 : C1.1 13 2 = C.1 13 2 := (a2.2.2 2 (by omega)).trans (y13 2 (by decide))
  have fr : M0.2 = M.2 ∧ (∀ a, a ≠ 0 → M0.1 a = M.1 a) ∧ (∀ b, (2 ≤ b ∧ b < 10) ∨ b = 1 ∨ b = 17 ∨ 25 ≤ b → M0.1 0 b = M.1 0 b) ∧ M0.1 0 16 = 0 := ⟨r2, r1, fun b hb => r0 b (by omega) (by omega) (by omega) (by omega) (by omega) (by omega) (by omega), x16⟩
  rw [a1, b1, bd1s, bd1s, o1, o2, bd2s, bd1s]
  rcases o5 with ⟨z1, z2, ⟨s1, z3⟩, z4⟩ | ⟨z1, z2⟩
  · obtain ⟨r2, C3, M3, p1, p2, p3⟩ := r_goods ht fuel0 0 s1 C2 M2 (by omega) (by unfold fuel0; omega) z3 z4
    rw [z1]
    rw [show f3_readInto_27 55 fuel0 1 0 C2 = some (r2, C3) from p1, p2]
    exact ⟨r2, C3, M3, M0, rfl, rfl, p3.pre ((yR.tr a2.R).tr o3) (b2.R.tr o4) (z2.trans e2), fr⟩
  · rw [z1, show fuel0 = 999 + 1 from rfl, f27_0, f46_F z2]
    exact ⟨0, C2, M2, M0, rfl, rfl, ⟨(yR.tr a2.R).tr o3, b2.R.tr o4, Or.inr ⟨rfl, z2⟩⟩, fr⟩
theorem s_world (h : II C M) : ∃ (r : Int64) (C' M' : Zs), (f6_world C = some (r, C')) ∧ (f7_world M = some (r, M')) ∧ II C' M' := by
  obtain ⟨N, n1, n2, n3, n4, n5⟩ := h.2.1
  obtain ⟨r, C1, M1, M0, a1, a2, ⟨a3, a4, a5⟩, fr1, fr2, fr3, fr4⟩ := r_all h
  unfold f6_world f3_empty
  rw [a1, a2, bd2s, ltt, bd1s]
  have m0 : ∀ b, b = 1 ∨ b = 5 ∨ b = 6 ∨ b = 17 ∨ b = 25 ∨ b = 29 ∨ b = 36 → M1.1 0 b = M.1 0 b := fun b hb => (a4.2.2 b (by omega)).trans (fr3 b (by omega))
  have m1 : ∀ a, a ≠ 0 → a ≠ 7 → a ≠ 8 → a ≠ 9 → M1.1 a = M.1 a := fun a x0 x1 x2 x3 => (a4.2.1 a x0 x1 x2 x3).trans (fr2 a x0)
  have m2 : M1.2 = M.2 := a4.1.trans fr1
  have m16 : M1.1 0 16 = 0 := (a4.2.2 16 (by omega)).trans fr4
  unfold f7_world_96
  rcases a5 with ⟨e1, e2, e3, m, g, hm, hg, d⟩ | ⟨e1, k, s, f1, f2, f3, f4, f5, f6, f7⟩
  · obtain ⟨A, H, Sh, D, c55, q7, q8, q9⟩ := drf_dat d hm hg
    have d1 := D.1
    have d2 := D.2.1
    have c55' : cW (zI C1 13 1 0) 55 m g A H Sh := cW_same c55 d1.2 ⟨fun a x1 x2 => zI_1n _ _ _ (by omega), rfl⟩
    obtain ⟨C2, W, s1, s2, s3, s4⟩ := p1_settle (o := 55) (by omega) D c55'
    obtain ⟨C3, t1, t2⟩ := p5_take (o := 37) (q := 55) (by omega) C2
    rw [if_neg (show ¬ r = 0 by rw [e1]; decide), s1, bd1s, t1, bd1s, ltt, e3, if_pos (show (0 : Int32) ≤ 0 by decide), ltt, ltt]
    obtain ⟨M3, hM3⟩ : ∃ M3, M3 = zI (zI M1 0 5 (M1.1 0 10)) 0 6 ((zI M1 0 5 (M1.1 0 10)).1 0 11) := ⟨_, rfl⟩
    rw [← hM3]
    have p0 : ∀ b, b ≠ 5 → b ≠ 6 → M3.1 0 b = M1.1 0 b := fun b b1 b2 => by rw [hM3, zI_rd, if_neg (fun z => b2 z.2), zI_rd, if_neg (fun z => b1 z.2)]
    have p5 : M3.1 0 5 = nI m := by rw [hM3, zI_rd, if_neg (by decide), zI_rd, if_pos ⟨rfl, rfl⟩]; exact d.2.2.1
    have p6 : M3.1 0 6 = nI g := by rw [hM3, zI_rd, if_pos ⟨rfl, rfl⟩, zI_rd, if_neg (by decide)]; exact d.2.2.2.1
    have p1 : ∀ a, a ≠ 0 → M3.1 a = M1.1 a := fun a e => by rw [hM3, zI_1n _ _ _ e, zI_1n _ _ _ e]
    have p2 : M3.2 = M1.2 := by rw [hM3]; rfl
    obtain ⟨M4, w1, w2, w3, w4, w5, w6, w7, w8, w9⟩ := w_copy M3 fuel0 0 M3 (by omega) (by unfold fuel0; omega) rfl (fun _ _ _ _ => rfl) (fun k hk => by omega)
    rw [show f7_world_139 fuel0 0 M3 = _ from w1, p5]
    have C37 : cW C3 37 m g A H Sh := cW_tk D (cW_frm (by omega) d1.2 c55' s2) t2
    have C37' : cW (zI C3 0 10 0) 37 m g A H Sh := cW_same C37 d1.2 ⟨fun a x1 x2 => zI_1n _ _ _ (by omega), rfl⟩
    have G44 : cG C3 44 m W := cG_tk (o := 37) (q := 55) D s3 t2
    have iv : iV (zI C3 0 10 0) M4 m g A H Sh W := by
      refine ⟨D, C37', fun l hl => G44 l hl, s4, ⟨?_, ?_, fun q hq => ?_, fun l hl => ?_, fun l q hl hq => ?_⟩, Or.inl w6, Or.inl ⟨by rw [zI_rd, if_pos ⟨rfl, rfl⟩], w5⟩⟩
      · rw [w4 5 (by decide) (by decide)]; exact p5
      · rw [w4 6 (by decide) (by decide)]; exact p6
      · rw [w8 q (by omega), p1 7 (by decide)]; exact q7 q hq
      · rw [w9 l (by omega), p1 8 (by decide)]; exact q8 l hl
      · rw [w7 (6 * l + q) (by omega), p1 9 (by decide)]; exact q9 l q hl hq
    have cc : ∀ a, a ≠ 0 → a ≠ 13 → a < 18 → (zI C3 0 10 0).1 a = C.1 a := fun a x0 x1 x2 => by
      rw [zI_1n _ _ _ x0, t2.2.1 a (by omega), (s2 a (by omega) (by omega) (by omega)).1, zI_1n _ _ _ x1, a3.2.1 a x1 (by omega)]
    have c13 : (zI C3 0 10 0).1 13 = (zI C1 13 1 0).1 13 := by
      rw [zI_1n _ _ _ (by decide), t2.2.1 13 (by omega), (s2 13 (by omega) (by omega) (by omega)).1]
    have c0 : ∀ b, b ≠ 10 → (zI C3 0 10 0).1 0 b = C.1 0 b := fun b hb => by
      rw [zI_rd, if_neg (fun z => hb z.2), t2.2.1 0 (by omega), (s2 0 (by omega) (by omega) (by omega)).1, zI_1n _ _ _ (by decide), a3.2.1 0 (by decide) (by omega)]
    have mm : ∀ b, b = 1 ∨ b = 16 ∨ b = 17 ∨ b = 36 → M4.1 0 b = M1.1 0 b := fun b hb => (w4 b (by omega) (by omega)).trans (p0 b (by omega) (by omega))
    have ma : ∀ a, a = 1 ∨ a = 2 ∨ a = 3 ∨ a = 10 ∨ a = 17 → M4.1 a = M.1 a := fun a ha => ((w3 a (by omega) (by omega) (by omega) (by omega)).trans (p1 a (by omega))).trans (m1 a (by omega) (by omega) (by omega) (by omega))
    refine ⟨(nI m).toInt64, _, M4, by rw [C37'.1], rfl, ?_⟩
    obtain ⟨h1, h2, h3, h4, h5⟩ := h
    refine ⟨iR_fr h1 (fun a x1 x2 => cc a (by omega) (by omega) (by omega)) (fun a x1 x2 => ma a (by omega)), ⟨0, by omega, ?_, ?_, ?_, fun k hk => by omega⟩, Or.inr ⟨m, g, A, H, Sh, W, iv⟩, iX_fr h4 (by rw [cc 15 (by decide) (by decide) (by decide)]) (cc 16 (by decide) (by decide) (by decide)) ((mm 36 (by omega)).trans (m0 36 (by omega))) (ma 17 (by omega)), iS_fr h5 (c0 11 (by decide)) ((mm 1 (by omega)).trans (m0 1 (by omega)))⟩
    · rw [c13, zI_rd, if_pos ⟨rfl, rfl⟩]; rfl
    · rw [mm 16 (by omega), m16]; rfl
    · rw [c13, zI_rd, if_neg (by decide), e2, n4, mm 17 (by omega), m0 17 (by omega)]
  · rw [if_pos e1, f6, show (0 : Int32) = nI 0 from rfl, if_neg (nI_ge (by omega) (by omega)), ltt]
    refine ⟨(-9000000000000000100 : Int64) - (nI s).toInt64, zI C1 13 1 (nI 0), zI M1 0 17 (nI k), ?_, ?_, ?_⟩
    · rw [zI_rd, if_neg (by decide), f5]
    · rw [zI_rd, if_neg (by decide), f7]
    · refine II_tape h ⟨0, by omega, by rw [zI_rd, if_pos ⟨rfl, rfl⟩], ?_, ?_, fun k hk => by omega⟩ (fun a x1 x2 x3 => ?_) a3.1 (fun b hb => ?_) (fun a x0 x1 x2 x3 x4 => ?_) m2
      · rw [zI_rd, if_neg (by decide), m16]; rfl
      · rw [zI_rd, if_neg (by decide), f4, zI_rd, if_pos ⟨rfl, rfl⟩]
      · rw [zI_1n _ _ _ x1, a3.2.1 a x1 x3]
      · rw [zI_rd, if_neg (by omega), m0 b (by omega)]
      · rw [zI_1n _ _ _ x0, m1 a x0 x1 x2 x3]
end WD
